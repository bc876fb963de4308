/** Nothing there yet; and no room left: the last that is taken, the first that isn't, and what comes ahead of that. */
public final class LimitsTest {
    private static final Edges.World BARE = LimitsTest::bare;
    private static final Edges.World SOMEONE = LimitsTest::someone;
    private static final Edges.World ONE_PLACE = LimitsTest::onePlace;
    private static final Edges.World NOBODY = LimitsTest::nobody;
    private static final Edges.World NOTHING_TOLD = LimitsTest::nothingTold;
    private static final Edges.World FULL = LimitsTest::full;

    private LimitsTest() {
    }

    public static void main(String[] args) {
        nothingIsTold();
        withoutPlacesThereIsNothingElse();
        withoutWaysThereIsNoState();
        withoutMarks();
        withoutWalkers();
        withoutTellings();
        withoutRecords();
        withoutTrays();
        withoutImages();
        fortyPlaces();
        sixtyWays();
        fortyMarks();
        sixTongues();
        eightWalkers();
        twoHundredBytes();
        twelveTellings();
        twelveTellingsByTrays();
        thirtyRecords();
        throwsComeAheadOfNoRoom();
        roomAgainByAnImage();
        fullInAnImage();
        theLastCall();
        Check.finish(LimitsTest.class);
    }

    // ---- nothing there yet

    private static BurntOak bare() {
        return new BurntOak();
    }

    private static void none(String what, Edges.World world, Edges.On call) {
        Edges.refused(what, Check.NO_SUCH, world, call);
    }

    private static void nothingIsTold() {
        BurntOak oak = bare();
        for (int what = 0; what <= 7; what++) {
            Check.same("1: count(" + what + ") of a new object", oak.count(what), 0);
        }
        Check.same("16: the fault at first", oak.fault(0), 0);
        Check.same("16: its place at first", oak.fault(1), -1);
        Check.same("31: the teller without records", oak.teller(), -1);
        for (int teller = 0; teller < 10; teller++) {
            Check.same("32: told by " + teller + " at first", oak.told(teller, true), 0);
            Check.same("32: told right by " + teller + " at first", oak.told(teller, false), 0);
        }
        Check.same("2: the first place is", oak.place(0, 0), 0);
        Check.same("9: the first tongue is", oak.tongue(), 0);
        Check.same("14: the tape was empty", oak.feed(0, 0, 0, 0, 0), 20);
    }

    private static void withoutPlacesThereIsNothingElse() {
        none("3: a way without places", BARE, o -> o.way(0, 0, 0, 1, 0, 200));
        none("4: a mark without places", BARE, o -> o.mark(0, 0, true, 0, 200));
        none("15: a telling without places", BARE, o -> o.telling(0, 0, 0));
        none("35: said without places", () -> {
            BurntOak oak = bare();
            oak.tray(0, 0, 0);
            return oak;
        }, o -> o.say(0, 0, 0));
        none("12: stands without places", SOMEONE, o -> o.stands(0, 0, 0, 0, false));
    }

    /** A walker in a world without places. */
    private static BurntOak someone() {
        BurntOak oak = bare();
        oak.tongue();
        oak.walker(0, 4095, false, true, 20);
        return oak;
    }

    /** A walker at one place, with a telling of nothing. */
    private static BurntOak onePlace() {
        BurntOak oak = someone();
        oak.place(50, 50);
        oak.telling(0, 0, 0);
        return oak;
    }

    private static void withoutWaysThereIsNoState() {
        none("5: no way ends", ONE_PLACE, o -> o.ends(true, 0, 0));
        none("6: no state", ONE_PLACE, o -> o.state(0, 0));
        none("7: no state to go out of", ONE_PLACE, o -> o.out(0, 0, 0));
        none("8: no state to go on from", ONE_PLACE, o -> o.on(0, 0, -1));
        none("18: no state to be led from", ONE_PLACE, o -> o.leads(0, 0, 0, 0, 0, -1));
        none("19: no state to hold for", ONE_PLACE, o -> o.holds(0, 0, 0, 0));
        none("20: no state to end from", ONE_PLACE, o -> o.end(0, 0, 0, 0, -1));
        none("21: no state to be right from", ONE_PLACE, o -> o.right(0, 0, 0, 0));
        none("22: no state with odds", ONE_PLACE, o -> o.odds(0, 0, 0, 0, 0));
        none("23: no state with parts", ONE_PLACE, o -> o.parts(0, 0, 0, 0));
        none("25: no state with years", ONE_PLACE, o -> o.years(0, 0, 0, 0));
        none("26: no two states", ONE_PLACE, o -> o.two(0, 0, 0, 0, 0, 0, 0));
        none("27: no state to ask from", ONE_PLACE, o -> o.ask(0, 0, 0, 0, 0, 0, true));
        none("28: no state to set out from", ONE_PLACE, o -> o.shortest(1, 0, 0, 0, 1, -1));
        none("29: no state to be told at", ONE_PLACE, o -> o.went(0, 0, 0, 0, 0));
        Edges.unchanged("24: nothing hangs on facing where no way is", 0, ONE_PLACE, o -> o.hangs(0, 0, 0, 0, true));
        Edges.unchanged("24: nothing is wrong there, either", 0, ONE_PLACE, o -> o.hangs(0, 0, 0, 0, false));
    }

    private static void withoutMarks() {
        none("5: no mark ends", ONE_PLACE, o -> o.ends(false, 0, 0));
        none("13: no mark is worth anything", ONE_PLACE, o -> o.worth(0, 1, 0, 0));
        Edges.unchanged("12: nothing stands", 0, ONE_PLACE, o -> o.stands(0, 0, 0, 0, false) ? 1 : 0);
        Edges.unchanged("12: nothing is seen", 0, ONE_PLACE, o -> o.stands(0, 0, 0, 0, true) ? 1 : 0);
    }

    /** A way, a mark and a telling, but nobody to walk. */
    private static BurntOak nobody() {
        BurntOak oak = Edges.line(2, 1);
        oak.mark(0, 0, true, 0, 200);
        oak.telling(0, 0, 0);
        return oak;
    }

    private static void withoutWalkers() {
        none("10: no tongue means anything", BARE, o -> o.means(0, 0, 0));
        none("11: nobody walks without a tongue", BARE, o -> o.walker(0, 0, false, false, 1));
        none("12: nobody for whom it stands", NOBODY, o -> o.stands(0, 0, 0, 0, false));
        Edges.unchanged("13: worth to nobody", 0, NOBODY, o -> o.worth(0, 0, 0, 0));
        Edges.refused("13: worth to one who isn't there", Check.ARGUMENT, NOBODY, o -> o.worth(0, 1, 0, 0));
        none("18: nobody is led", NOBODY, o -> o.leads(0, 0, 0, 0, 0, -1));
        none("19: holds for nobody", NOBODY, o -> o.holds(0, 0, 0, 0));
        none("20: nobody ends", NOBODY, o -> o.end(0, 0, 0, 0, -1));
        none("21: right for nobody", NOBODY, o -> o.right(0, 0, 0, 0));
        none("22: odds of nobody", NOBODY, o -> o.odds(0, 0, 0, 0, 0));
        none("23: parts for nobody", NOBODY, o -> o.parts(0, 0, 0, 0));
        none("24: hangs for nobody", NOBODY, o -> o.hangs(0, 0, 0, 0, true));
        none("25: years of nobody", NOBODY, o -> o.years(0, 0, 0, 0));
        none("26: two of nobody", NOBODY, o -> o.two(0, 0, 0, 0, 0, 0, 0));
        none("27: nobody asks", NOBODY, o -> o.ask(0, 0, 0, 0, 0, 0, true));
        Edges.refused("28: an empty set of nobody", Check.ARGUMENT, NOBODY, o -> o.shortest(0, 0, 0, 0, 1, -1));
        Edges.refused("28: a set of one who isn't there", Check.ARGUMENT, NOBODY, o -> o.shortest(1, 0, 0, 0, 1, -1));
        none("29: nobody went", NOBODY, o -> o.went(0, 0, 0, 0, 0));
        none("30: nobody learned", NOBODY, o -> o.learned(0, 0));
    }

    /** A way and a walker, but nothing told. */
    private static BurntOak nothingTold() {
        BurntOak oak = Edges.line(2, 1);
        Edges.walker(oak, 1);
        return oak;
    }

    private static void withoutTellings() {
        none("17: no telling has sayings", NOTHING_TOLD, o -> o.sayings(0));
        none("18: no telling leads", NOTHING_TOLD, o -> o.leads(0, 0, 0, 0, 0, -1));
        none("19: no telling holds", NOTHING_TOLD, o -> o.holds(0, 0, 0, 0));
        none("20: no telling ends", NOTHING_TOLD, o -> o.end(0, 0, 0, 0, -1));
        none("21: no telling is right", NOTHING_TOLD, o -> o.right(0, 0, 0, 0));
        none("22: no telling has odds", NOTHING_TOLD, o -> o.odds(0, 0, 0, 0, 0));
        none("23: no telling parts", NOTHING_TOLD, o -> o.parts(0, 0, 0, 0));
        none("24: no telling hangs", NOTHING_TOLD, o -> o.hangs(0, 0, 0, 0, true));
        none("25: no telling has years", NOTHING_TOLD, o -> o.years(0, 0, 0, 0));
        none("26: no two tellings", NOTHING_TOLD, o -> o.two(0, 0, 0, 0, 0, 0, 0));
        none("27: no telling to ask about", NOTHING_TOLD, o -> o.ask(0, 0, 0, 0, 0, 0, true));
        none("29: no telling was told", NOTHING_TOLD, o -> o.went(0, 0, 0, 0, 0));
        Edges.refused("15: n above an empty tape", Check.ARGUMENT, NOTHING_TOLD, o -> o.telling(1, 0, 0));
        Edges.unchanged("28: the shortest needs no telling", 1, NOTHING_TOLD, o -> o.shortest(1, 1, 1, 0, 1, -1));
    }

    private static void withoutRecords() {
        for (int n = 0; n < 12; n++) {
            int name = n;
            Edges.unchanged("30: without records a name can mean all", 4095, NOTHING_TOLD, o -> o.learned(0, name));
        }
        Edges.unchanged("31: no teller without records", -1, NOBODY, BurntOak::teller);
        Edges.unchanged("32: nothing told without records", 0, NOBODY, o -> o.told(0, true));
    }

    private static void withoutTrays() {
        for (int n = 0; n < 4; n++) {
            int tray = n;
            Edges.refused("34: tray " + n + " is missing", Check.STATE, ONE_PLACE, o -> o.write(tray, 0, 0));
            Edges.refused("34: missing comes ahead of its place", Check.STATE, ONE_PLACE, o -> o.write(tray, -1, 0));
            Edges.refused("35: tray " + n + " is missing", Check.STATE, ONE_PLACE, o -> o.say(tray, 0, 0));
            Edges.refused("35: missing comes ahead of the teller", Check.STATE, ONE_PLACE, o -> o.say(tray, 0, 10));
            none("35: no such place comes ahead of missing", ONE_PLACE, o -> o.say(tray, 1, 10));
        }
    }

    private static void withoutImages() {
        for (int n = 0; n < 3; n++) {
            int image = n;
            Edges.refused("37: image " + n + " wasn't made", Check.STATE, ONE_PLACE, o -> o.restore(image));
        }
        none("37: no such image comes ahead of none was made", ONE_PLACE, o -> o.restore(3));
        BurntOak oak = bare();
        oak.image(1);
        oak.place(1, 1);
        Check.thrown("37: image 0 wasn't made", Check.STATE, () -> oak.restore(0));
        Check.thrown("37: image 2 wasn't made", Check.STATE, () -> oak.restore(2));
        oak.restore(1);
        Check.same("36: an image of nothing", oak.count(0), 0);
        Check.thrown("37: image 0 wasn't made yet", Check.STATE, () -> oak.restore(0));
    }

    // ---- no room left

    private static BurntOak full() {
        BurntOak oak = new BurntOak();
        for (int n = 0; n < 40; n++) {
            Check.same("2: place " + n, oak.place(n % 10 * 7, n / 10 * 11), n);
        }
        for (int n = 0; n < 60; n++) {
            // From each place to the next one and the next but one, 40 being followed by 0.
            Check.same("3: way " + n, oak.way(n % 40, (n % 40 + 1 + n / 40) % 40, n % 3, 1 + n, 0, 200), n);
        }
        for (int n = 0; n < 40; n++) {
            Check.same("4: mark " + n, oak.mark(n, n % 12, n % 2 == 0, n, 200 - n), n);
        }
        for (int n = 0; n < 6; n++) {
            Check.same("9: tongue " + n, oak.tongue(), n);
        }
        for (int n = 0; n < 8; n++) {
            Check.same("11: walker " + n, oak.walker(n % 6, 4095, n % 2 == 0, n % 3 == 0, 20 - n), n);
        }
        for (int n = 0; n < 12; n++) {
            Check.same("15: telling " + n, Town.tell(oak, "1 left;on 2;", n, n % 10), n);
        }
        for (int n = 1; n <= 30; n++) {
            Check.same("29: record " + n, oak.went(n % 8, n % 12, n, n, n), n);
        }
        for (int n = 1; n <= 10; n++) {
            Check.same("14: " + n + " feeds", oak.feed(0x6c656674, 0x3b6c6566, 0x743b6f6e, 0x20313b20, 0x20202020 + n), 20 * n);
        }
        oak.tray(0, 0, 1);
        return oak;
    }

    private static void noRoom(String what, Edges.Asked call) {
        Edges.unchanged(what, -1, FULL, call);
    }

    private static void fortyPlaces() {
        Check.same("38: places", full().count(0), 40);
        noRoom("2: a 41st place", o -> o.place(99, 99));
    }

    private static void sixtyWays() {
        BurntOak oak = full();
        Check.same("38: ways", oak.count(1), 60);
        Check.same("6: the last state's way", oak.state(239, 2), 59);
        Check.same("6: the last state's place", oak.state(239, 0), 21);
        Check.thrown("6: behind the last state", Check.NO_SUCH, () -> oak.state(240, 0));
        noRoom("3: a 61st way", o -> o.way(0, 20, 0, 1, 0, 200));
    }

    private static void fortyMarks() {
        BurntOak oak = full();
        Check.same("38: marks", oak.count(2), 40);
        Check.same("5: the last mark", oak.ends(false, 39, 39), 161);
        noRoom("4: a 41st mark", o -> o.mark(0, 0, true, 0, 200));
    }

    private static void sixTongues() {
        BurntOak oak = full();
        Check.same("38: tongues", oak.count(3), 6);
        Check.same("10: the last tongue's last name", oak.means(5, 11, 0), 2048);
        noRoom("9: a seventh tongue", BurntOak::tongue);
    }

    private static void eightWalkers() {
        BurntOak oak = full();
        Check.same("38: walkers", oak.count(4), 8);
        Check.same("13: all eight know it", oak.worth(0, 255, 0, 0), 8);
        Check.same("13: the eighth knows it", oak.worth(0, 128, 0, 0), 1);
        Check.thrown("13: there is no ninth", Check.ARGUMENT, () -> oak.worth(0, 256, 0, 0));
        Check.thrown("28: there is no ninth", Check.ARGUMENT, () -> oak.shortest(256, 0, 0, 0, 1, -1));
        noRoom("11: a ninth walker", o -> o.walker(0, 4095, false, true, 20));
    }

    private static void twoHundredBytes() {
        BurntOak oak = full();
        Check.same("38: bytes", oak.count(7), 200);
        noRoom("14: an eleventh feed", o -> o.feed(1, 2, 3, 4, 5));
    }

    private static void twelveTellings() {
        Check.same("38: tellings", full().count(5), 12);
        Check.same("17: the last telling's sayings", full().sayings(11), 2);
        noRoom("15: a 13th telling of all the tape", o -> o.telling(200, 0, 0));
        noRoom("15: a 13th telling of nothing", o -> o.telling(0, 0, 0));
        noRoom("15: a 13th telling with a fault", o -> o.telling(3, 0, 0));
        Edges.unchanged("15: the tape stays", 200, FULL, o -> {
            o.telling(200, 0, 0);
            return o.count(7);
        });
        Edges.unchanged("16: what wasn't read has no fault", 0, FULL, o -> {
            o.telling(3, 0, 0);
            return o.fault(0);
        });
    }

    private static void twelveTellingsByTrays() {
        noRoom("35: a 13th telling said", o -> o.say(0, 0, 0));
        BurntOak oak = Edges.line(2, 1);
        oak.tray(3, 2, 10);
        for (int n = 0; n < 12; n++) {
            Check.same("35: telling " + n, n % 2 == 0 ? oak.say(3, 1, 9) : oak.telling(0, 1, 9), n);
        }
        Check.same("35: a 13th said", oak.say(3, 1, 9), -1);
        Check.same("15: a 13th told", oak.telling(0, 1, 9), -1);
    }

    private static void thirtyRecords() {
        Check.same("38: records", full().count(6), 30);
        noRoom("29: a 31st record", o -> o.went(0, 0, 0, 0, 0));
        int all = 0;
        for (int teller = 0; teller < 10; teller++) {
            all += full().told(teller, true);
        }
        Check.same("32: all tellers together", all, 30);
    }

    private static void throwsComeAheadOfNoRoom() {
        Edges.refused("2: no room, and x", Check.ARGUMENT, FULL, o -> o.place(100, 99));
        Edges.refused("2: no room, and one is there", Check.ARGUMENT, FULL, o -> o.place(0, 0));
        none("3: no room, and no such place", FULL, o -> o.way(0, 40, 0, 1, 0, 200));
        Edges.refused("3: no room, and length", Check.ARGUMENT, FULL, o -> o.way(0, 20, 0, 0, 0, 200));
        Edges.refused("3: no room, and a year in common", Check.ARGUMENT, FULL, o -> o.way(1, 0, 0, 1, 200, 200));
        none("4: no room, and no such place", FULL, o -> o.mark(40, 0, true, 0, 200));
        Edges.refused("4: no room, and kind", Check.ARGUMENT, FULL, o -> o.mark(0, 12, true, 0, 200));
        none("11: no room, and no such tongue", FULL, o -> o.walker(6, 0, true, true, 1));
        Edges.refused("11: no room, and patience", Check.ARGUMENT, FULL, o -> o.walker(0, 0, true, true, 0));
        none("15: no room, and no such place", FULL, o -> o.telling(0, 40, 0));
        Edges.refused("15: no room, and n", Check.ARGUMENT, FULL, o -> o.telling(201, 0, 0));
        none("29: no room, and no such place", FULL, o -> o.went(0, 0, 0, 0, 40));
        Edges.refused("29: no room, and year", Check.ARGUMENT, FULL, o -> o.went(0, 0, 0, 201, 0));
        Edges.refused("35: no room, and missing", Check.STATE, FULL, o -> o.say(1, 0, 0));
        Edges.refused("35: no room, and teller", Check.ARGUMENT, FULL, o -> o.say(0, 0, 10));
    }

    private static void roomAgainByAnImage() {
        BurntOak oak = bare();
        oak.image(0);
        for (int n = 0; n < 40; n++) {
            oak.place(n, 0);
        }
        for (int n = 0; n < 12; n++) {
            oak.telling(0, 0, 0);
        }
        for (int n = 0; n < 6; n++) {
            oak.tongue();
        }
        oak.restore(0);
        Check.same("37: room for a place again", oak.place(0, 0), 0);
        Check.same("37: room for a telling again", oak.telling(0, 0, 0), 0);
        Check.same("37: room for a tongue again", oak.tongue(), 0);
        Check.thrown("37: but not two alike", Check.ARGUMENT, () -> oak.place(0, 0));
    }

    private static void fullInAnImage() {
        Edges.World restored = () -> {
            BurntOak oak = full();
            oak.image(0);
            oak.restore(0);
            return oak;
        };
        Edges.unchanged("37: full as it was", -1, restored, o -> o.place(99, 99));
        Edges.unchanged("37: records full as they were", -1, restored, o -> o.went(0, 0, 0, 0, 0));
        Edges.unchanged("37: ways full as they were", -1, restored, o -> o.way(0, 20, 0, 1, 0, 200));
        Edges.unchanged("37: tellings full as they were", -1, restored, o -> o.telling(0, 0, 0));
        Edges.unchanged("37: the last state is there", 59, restored, o -> o.state(239, 2));
    }

    /** An object is used for at most 512 calls: the last of them answers still. */
    private static void theLastCall() {
        BurntOak oak = bare();
        for (int n = 0; n < 511; n++) {
            int due = Math.min(n, 40);
            Check.same("call " + n, n < 40 ? oak.place(n, n) : oak.count(0), n < 40 ? n : due);
        }
        Check.same("the 512th call", oak.count(0), 40);
    }
}
