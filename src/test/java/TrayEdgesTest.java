/** Boundary cases of promises 33 to 38: trays, images and counts. */
public final class TrayEdgesTest {
    private static final Edges.World RICH = Edges::rich;

    private TrayEdgesTest() {
    }

    public static void main(String[] args) {
        traysOfEachLength();
        traysOfZeros();
        aTrayLaidAgain();
        cutToEachSort();
        noSuchPlaceInATray();
        wordsFromZeroToThirty();
        numbersThatAreNoWords();
        cutToAWord();
        tenAreSaid();
        saidOverAnother();
        nothingIsSaid();
        whatIsSaidStays();
        imagesFromZeroToTwo();
        imagesKeepApart();
        imagesLeaveOutTapeFaultAndTrays();
        imagesOfNothingAndOfAll();
        restoredTwice();
        countsOfAll();
        Check.finish(TrayEdgesTest.class);
    }

    private static void traysOfEachLength() {
        for (int sort = 0; sort < 4; sort++) {
            for (int many = 0; many <= 12; many++) {
                BurntOak oak = new BurntOak();
                oak.tray(3, sort, many);
                for (int place = 0; place < many; place++) {
                    Check.same("33: place " + place + " of " + many, oak.write(3, place, 7), 7);
                }
                int behind = many;
                Check.thrown("34: place " + many + " of " + many, Check.INDEX, () -> oak.write(3, behind, 7));
                Check.thrown("34: ahead of the first", Check.INDEX, () -> oak.write(3, -1, 7));
            }
        }
        Edges.refused("33: 13 numbers", Check.ARGUMENT, RICH, o -> o.tray(0, 0, 13));
        Edges.refused("33: fewer than none", Check.ARGUMENT, RICH, o -> o.tray(0, 0, -1));
        Edges.refused("33: no such sort", Check.ARGUMENT, RICH, o -> o.tray(0, 4, 5));
        Edges.refused("33: no such sort, below", Check.ARGUMENT, RICH, o -> o.tray(2, -1, 5));
        Edges.refused("33: a missing one isn't laid by a refused call", Check.ARGUMENT, RICH, o -> o.tray(2, 0, 13));
        Edges.refused("33: no such tray comes ahead of the sort", Check.NO_SUCH, RICH, o -> o.tray(4, 4, 13));
    }

    private static void traysOfZeros() {
        BurntOak oak = Edges.line(12, 1);
        Edges.walker(oak, 1);
        for (int sort = 0; sort < 4; sort++) {
            oak.tray(sort, sort, 10);
            int telling = oak.say(sort, 10, 0);
            Check.same("33: ten 0s of sort " + sort, oak.leads(telling, 0, Edges.START, 0, 10, 0), Edges.come(10));
        }
    }

    private static void aTrayLaidAgain() {
        BurntOak oak = Edges.line(3, 1);
        Edges.walker(oak, 1);
        oak.tray(1, 3, 12);
        for (int n = 0; n < 12; n++) {
            oak.write(1, n, Long.MAX_VALUE);
        }
        oak.tray(1, 3, 2);
        Check.same("33: 0s again", oak.say(1, 2, 0), 0);
        Check.so("33: two of them", oak.right(0, 0, Edges.START, 0));
        oak.tray(1, 0, 12);
        Check.same("33: longer again, of another sort", oak.write(1, 11, 300), 44);
        oak.tray(1, 0, 0);
        Check.thrown("33: of nothing", Check.INDEX, () -> oak.write(1, 0, 0));
        Check.same("35: which is said", oak.say(1, 0, 0), 1);
    }

    private static void cutToEachSort() {
        int[] bits = {8, 16, 32, 64};
        for (int sort = 0; sort < 4; sort++) {
            BurntOak oak = new BurntOak();
            oak.tray(sort, sort, 12);
            int away = 64 - bits[sort];
            long greatest = Long.MAX_VALUE >> away;
            long least = Long.MIN_VALUE >> away;
            Check.same("34: the greatest of sort " + sort, oak.write(sort, 0, greatest), greatest);
            Check.same("34: the least of sort " + sort, oak.write(sort, 11, least), least);
            Check.same("34: one more than the greatest", oak.write(sort, 0, greatest + 1), least);
            Check.same("34: one less than the least", oak.write(sort, 11, least - 1), greatest);
            for (long v : new long[] {0, 1, -1, 127, 128, 255, 256, 32767, 32768, 65535, 65536, 1L << 31, (1L << 32) - 1, 1L << 32, 1L << 63,
                (1L << 63) - 1, 0x0123456789abcdefL, 0xfedcba9876543210L}) {
                Check.same("34: " + v + " in sort " + sort, oak.write(sort, 5, v), v << away >> away);
                Check.same("34: " + -v + " in sort " + sort, oak.write(sort, 5, -v), -v << away >> away);
            }
        }
    }

    private static void noSuchPlaceInATray() {
        Edges.refused("34: behind the last", Check.INDEX, RICH, o -> o.write(0, 2, 5));
        Edges.refused("34: ahead of the first", Check.INDEX, RICH, o -> o.write(0, -1, 5));
        Edges.refused("34: the greatest of all numbers", Check.INDEX, RICH, o -> o.write(1, Integer.MAX_VALUE, 5));
        Edges.refused("34: missing comes ahead of the place", Check.STATE, RICH, o -> o.write(2, 99, 5));
        Edges.refused("34: missing, though it is a place", Check.STATE, RICH, o -> o.write(2, 0, 5));
        Edges.refused("34: no such tray comes ahead of the place", Check.NO_SUCH, RICH, o -> o.write(4, 99, 5));
        Edges.refused("34: no such tray, below", Check.NO_SUCH, RICH, o -> o.write(-1, 0, 5));
    }

    private static BurntOak tray(int sort, long... numbers) {
        BurntOak oak = Edges.line(3, 1);
        Edges.walker(oak, 1);
        oak.tray(0, sort, numbers.length);
        for (int n = 0; n < numbers.length; n++) {
            oak.write(0, n, numbers[n]);
        }
        return oak;
    }

    private static void wordsFromZeroToThirty() {
        for (int sort = 0; sort < 4; sort++) {
            for (int word = 0; word <= 30; word++) {
                BurntOak oak = tray(sort, word);
                Check.same("35: word " + word, oak.say(0, 0, 0), 0);
                Check.same("17: one saying", oak.sayings(0), 1);
            }
        }
    }

    private static void numbersThatAreNoWords() {
        long[] none = {-1, 31, 32, 127, -128, Integer.MIN_VALUE, Integer.MAX_VALUE, Long.MIN_VALUE, Long.MAX_VALUE, 1L << 32, (1L << 32) + 30, 256, 65536};
        for (long n : none) {
            Edges.refused("35: " + n + " is no word", Check.ARGUMENT, () -> tray(3, n), o -> o.say(0, 0, 0));
            Edges.refused("35: " + n + " behind words", Check.ARGUMENT, () -> tray(3, 0, 30, n), o -> o.say(0, 0, 0));
            Edges.refused("35: " + n + " ahead of words", Check.ARGUMENT, () -> tray(3, n, 30, 0), o -> o.say(0, 0, 0));
        }
        Edges.refused("35: 31 as the tenth", Check.ARGUMENT, () -> tray(0, 0, 0, 0, 0, 0, 0, 0, 0, 0, 31), o -> o.say(0, 0, 0));
        Edges.refused("35: no such place comes ahead of it", Check.NO_SUCH, () -> tray(0, 31), o -> o.say(0, 3, 0));
        Edges.refused("35: no such tray comes ahead of it", Check.NO_SUCH, () -> tray(0, 31), o -> o.say(4, 0, 0));
    }

    /** A number is cut when it is written: what is said is as it is there. */
    private static void cutToAWord() {
        int[] bits = {8, 16, 32};
        for (int sort = 0; sort < 3; sort++) {
            BurntOak oak = tray(sort, 1L << bits[sort], (1L << bits[sort]) + 30);
            Check.same("35: cut to 0 and 30", oak.say(0, 0, 0), 0);
            BurntOak below = tray(sort, (1L << bits[sort]) - 1);
            Check.thrown("35: cut to -1", Check.ARGUMENT, () -> below.say(0, 0, 0));
        }
    }

    private static void tenAreSaid() {
        long[] ten = new long[10];
        BurntOak oak = tray(1, ten);
        Check.same("35: ten", oak.say(0, 2, 9), 0);
        Check.same("17: ten sayings", oak.sayings(0), 10);
        Edges.refused("35: eleven", Check.ARGUMENT, () -> tray(1, new long[11]), o -> o.say(0, 2, 9));
        Edges.refused("35: twelve", Check.ARGUMENT, () -> tray(1, new long[12]), o -> o.say(0, 2, 9));
        Edges.refused("35: ten, but teller 10", Check.ARGUMENT, () -> tray(1, ten), o -> o.say(0, 2, 10));
        Edges.refused("35: ten, but teller -1", Check.ARGUMENT, () -> tray(1, ten), o -> o.say(0, 2, -1));
        Edges.refused("35: missing comes ahead of the teller", Check.STATE, () -> tray(1, ten), o -> o.say(1, 2, -1));
        Edges.refused("35: no such place comes ahead of missing", Check.NO_SUCH, () -> tray(1, ten), o -> o.say(1, 3, -1));
    }

    /** In the place of a telling that a restored image hasn't, of which no word is left. */
    private static void saidOverAnother() {
        BurntOak oak = Edges.line(12, 1);
        Edges.walker(oak, 3);
        oak.image(0);
        oak.tray(0, 0, 10);
        for (int saying = 0; saying < 10; saying++) {
            for (int word = 0; word < 4; word++) {
                Town.tell(oak, Edges.oneWord(saying, word, "loose"), 0, 0);
                oak.restore(0);
                Check.same("35: in its place", oak.say(0, 0, 0), 0);
                Check.same("35: behind word " + word + " of saying " + saying, Town.states(oak, 0, 0, Edges.START, 9), "" + Edges.come(10));
                oak.restore(0);
            }
        }
    }

    private static void nothingIsSaid() {
        for (int sort = 0; sort < 4; sort++) {
            BurntOak oak = tray(sort);
            Check.same("35: nothing", oak.say(0, 0, 0), 0);
            Check.same("17: no sayings", oak.sayings(0), 0);
            Check.so("21: right where one is", oak.right(0, 0, Edges.START, 0) && !oak.right(0, 0, 0, 0));
        }
    }

    private static void whatIsSaidStays() {
        BurntOak oak = tray(0, 0, 0);
        oak.say(0, 2, 4);
        oak.write(0, 0, 1);
        oak.tray(0, 3, 0);
        Check.so("35: whatever becomes of the tray", oak.right(0, 0, Edges.START, 0));
        Check.same("17: two sayings still", oak.sayings(0), 2);
    }

    private static void imagesFromZeroToTwo() {
        BurntOak oak = new BurntOak();
        for (int i = 0; i < 3; i++) {
            oak.image(i);
            oak.place(i, i);
        }
        for (int i = 0; i < 3; i++) {
            oak.restore(i);
            Check.same("37: image " + i, oak.count(0), i);
        }
        Edges.refused("36: no fourth", Check.NO_SUCH, RICH, o -> o.image(3));
        Edges.refused("36: none ahead of the first", Check.NO_SUCH, RICH, o -> o.image(-1));
        Edges.refused("37: no fourth", Check.NO_SUCH, RICH, o -> o.restore(3));
        Edges.refused("37: none was made", Check.STATE, RICH, o -> o.restore(1));
    }

    private static void imagesKeepApart() {
        BurntOak oak = Edges.rich();
        oak.image(1);
        String all = Town.all(oak);
        oak.restore(0);
        Check.same("37: an image made later is there still", oak.count(5), 0);
        oak.ends(true, 0, 0);
        oak.means(0, 0, 0);
        oak.image(0);
        oak.restore(1);
        oak.restore(0);
        Check.same("36: made again as it was then", oak.ends(true, 0, 0), 0);
        oak.restore(1);
        oak.place(99, 99);
        oak.restore(1);
        Check.same("37: what comes behind doesn't change it", oak.count(0), 12);
        Check.same("37: all is as in it", Town.all(oak), all);
    }

    private static void imagesLeaveOutTapeFaultAndTrays() {
        BurntOak oak = new BurntOak();
        oak.place(0, 0);
        oak.image(0);
        Town.tell(oak, "left!", 0, 0);
        Town.feed(oak, "left;right;");
        oak.tray(0, 1, 3);
        oak.tray(1, 0, 0);
        oak.write(0, 2, 30);
        oak.restore(0);
        Check.same("37: the tape stays", oak.count(7), 20);
        Check.same("37: the fault stays", oak.fault(0), 1);
        Check.same("37: its place stays", oak.fault(1), 4);
        Check.same("37: a tray stays, with what it has", oak.say(0, 0, 0), 0);
        Check.same("37: all of it", oak.sayings(0), 3);
        Check.same("37: an empty tray stays", oak.say(1, 0, 0), 1);
        Check.thrown("37: a missing one, too", Check.STATE, () -> oak.say(2, 0, 0));
        Check.same("37: the tape is read", oak.telling(11, 0, 0), 2);
        oak.restore(0);
        Check.same("37: an empty tape stays empty", oak.count(7), 0);
        Check.same("37: no fault stays no fault", oak.fault(0), 0);
        Check.same("37: tellings go", oak.count(5), 0);
    }

    private static void imagesOfNothingAndOfAll() {
        BurntOak oak = new BurntOak();
        oak.image(2);
        String nothing = Town.all(oak);
        for (int n = 0; n < 40; n++) {
            oak.place(n, 0);
        }
        for (int n = 0; n < 39; n++) {
            oak.way(n, n + 1, 0, 1, 0, 200);
            oak.mark(n, n % 12, true, 0, 200);
        }
        oak.image(0);
        String all = Town.all(oak);
        oak.restore(2);
        Check.same("37: nothing again", Town.all(oak), nothing);
        oak.restore(0);
        Check.same("37: all again", Town.all(oak), all);
    }

    private static void restoredTwice() {
        Edges.unchanged("37: restored twice is as once", 0, () -> {
            BurntOak oak = Edges.rich();
            oak.restore(2);
            return oak;
        }, o -> {
            o.restore(2);
            return 0;
        });
        Edges.unchanged("36: an image of what was restored", 0, () -> {
            BurntOak oak = Edges.rich();
            oak.restore(2);
            return oak;
        }, o -> {
            o.image(2);
            o.restore(2);
            return 0;
        });
    }

    private static void countsOfAll() {
        BurntOak oak = Edges.rich();
        int[] due = {-1, 12, 11, 5, 2, 6, 4, 1, 20, -1};
        for (int what = -1; what <= 8; what++) {
            Check.same("38: count(" + what + ")", oak.count(what), due[what + 1]);
        }
        Check.same("38: the least", oak.count(Integer.MIN_VALUE), -1);
        Check.same("38: the greatest", oak.count(Integer.MAX_VALUE), -1);
    }
}
