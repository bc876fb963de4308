/** Boundary cases of promises 14 to 17, and of what the terms say of texts and their faults. */
public final class TextEdgesTest {
    private static final Edges.World RICH = Edges::rich;
    private static final String TEN = "left;left;left;left;left;left;left;left;left;left;";

    private TextEdgesTest() {
    }

    public static void main(String[] args) {
        eachByteAlone();
        eachByteBehindAWord();
        numbersOfTwoDigits();
        numbersOfMoreDigits();
        wordsAsLongAsTheyGo();
        blanks();
        cutShort();
        theEndIsTheTextsLength();
        twoHundredBytes();
        theHighestByteFirst();
        feedsToTwoHundred();
        onlyTheFirstBytes();
        eachAwaited();
        theLeastKindOfAToken();
        theFirstAlongTheText();
        anEleventhSaying();
        aFourthOr();
        theTapeIsEmptyThen();
        theLatestThatReadTheTape();
        sayingsAreCounted();
        Check.finish(TextEdgesTest.class);
    }

    /** What a text answers: "0" without fault, else the fault and its place. */
    private static void reads(String text, String due) {
        reads(text, text.length(), due);
    }

    private static void reads(String text, int n, String due) {
        BurntOak oak = new BurntOak();
        oak.place(0, 0);
        Town.feed(oak, text);
        int got = oak.telling(n, 0, 0);
        String told = got == 0 ? "0" : -10 - got + " at " + oak.fault(1);
        String what = "15: the first " + n + " bytes of '" + text + "'";
        Check.same(what, told, due);
        Check.same(what + ", the fault", oak.fault(0), got == 0 ? 0 : -10 - got);
        Check.same(what + ", tellings", oak.count(5), got == 0 ? 1 : 0);
        Check.same(what + ", the tape", oak.count(7), 0);
    }

    private static void eachByteAlone() {
        for (int b = 0; b < 256; b++) {
            String due = "1 at 0";
            if (b == 10 || b == 32) {
                due = "0";
            } else if (b == ';' || b >= 'a' && b <= 'z') {
                due = "2 at 0";
            } else if (b == '0') {
                due = "3 at 0";
            } else if (b >= '1' && b <= '9') {
                due = "2 at 1";
            }
            reads((char) b + "", due);
        }
    }

    private static void eachByteBehindAWord() {
        for (int b = 0; b < 256; b++) {
            String due = "1 at 4";
            if (b == 10 || b == 32) {
                due = "0";
            } else if (b >= 'a' && b <= 'z') {
                due = "2 at 0";
            } else if (b == ';') {
                due = "2 at 5";
            } else if (b >= '0' && b <= '9') {
                due = "2 at 4";
            }
            reads("left" + (char) b + ";", due);
        }
    }

    private static void numbersOfTwoDigits() {
        for (int n = 0; n < 100; n++) {
            boolean fits = n >= 1 && n <= 20;
            String two = n < 10 ? "0" + n : "" + n;
            for (String number : new String[] {"" + n, two}) {
                reads("on " + number + ";", fits ? "0" : "3 at 3");
                reads("far " + number + ";", fits ? "0" : "3 at 4");
                reads(number + " left;", fits ? "0" : "3 at 0");
                reads(number + "right not mill;", fits ? "0" : "3 at 0");
            }
        }
    }

    private static void numbersOfMoreDigits() {
        reads("on 001;", "1 at 3");
        reads("on 000;", "1 at 3");
        reads("on 010;", "1 at 3");
        reads("on 1234567890123456789012345;", "1 at 3");
        reads("on 4294967297;", "1 at 3");
        reads("on 257;", "1 at 3");
        reads("100left;", "1 at 0");
        reads("far 100", "1 at 4");
        reads("0".repeat(200), "1 at 0");
        reads("1 2;", "2 at 2");
        reads("on 1 2;", "2 at 5");
        reads("on 1\n0;", "2 at 5");
    }

    private static void wordsAsLongAsTheyGo() {
        reads("onuntil oak;", "2 at 0");
        reads("on untiloak;", "2 at 3");
        reads("on1;", "0");
        reads("on until oak;left;", "0");
        reads("leftright;", "2 at 0");
        reads("left or2 left;", "0");
        reads("left orright;", "2 at 5");
        reads("2left not oak;", "0");
        reads("2leftnot oak;", "2 at 1");
        reads("2 left notoak;", "2 at 7");
        reads("lef;", "2 at 0");
        reads("l;", "2 at 0");
        reads("bridg;", "2 at 0");
        reads("on until bridge;", "0");
        reads("on until school;", "0");
        reads("on until church;", "0");
        reads("on until bridgee;", "2 at 9");
        reads("on until " + "a".repeat(190) + ";", "2 at 9");
        reads("z".repeat(200), "2 at 0");
    }

    private static void blanks() {
        reads(" ".repeat(200), "0");
        reads("\n".repeat(200), "0");
        reads("", "0");
        reads("\n left \n ; \n", "0");
        reads("on\n\n1\n;", "0");
        reads("le ft;", "2 at 0");
        reads("on 1 ;", "0");
        int[] noBlanks = {0, 8, 9, 11, 12, 13, 31, 33, 127, 133, 160};
        for (int b : noBlanks) {
            reads("on" + (char) b + "1;", "1 at 2");
        }
    }

    private static void cutShort() {
        String text = "on 12;3 left not oak;";
        String[] due = {"0", "2 at 0", "2 at 2", "2 at 3", "2 at 4", "2 at 5", "0", "2 at 7", "2 at 8", "2 at 8", "2 at 8", "2 at 8",
            "2 at 12", "2 at 13", "2 at 13", "2 at 13", "2 at 16", "2 at 17", "2 at 17", "2 at 17", "2 at 20", "0"};
        Check.same("the text's length", due.length, text.length() + 1);
        for (int n = 0; n <= text.length(); n++) {
            reads(text, n, due[n]);
        }
    }

    private static void theEndIsTheTextsLength() {
        reads("left", "2 at 4");
        reads("left ", "2 at 5");
        reads("left  \n", "2 at 7");
        reads("left;", "0");
        reads("left;right", "2 at 10");
        reads("on until", "2 at 8");
        reads("left or \n\n", "2 at 10");
        reads("on" + " ".repeat(198), "2 at 200");
    }

    private static void twoHundredBytes() {
        String words = "on until bridge or on until school;on until church or on until cross;";
        String good = words + " ".repeat(200 - words.length() - 5) + "left;";
        Check.same("200 bytes", good.length(), 200);
        reads(good, "0");
        reads(good.substring(0, 199) + " ", "2 at 200");
        reads(good.substring(0, 199) + "!", "1 at 199");
        reads(good.substring(0, 199) + "s", "2 at 195");
        reads(good.substring(0, 199) + "0", "2 at 199");
        reads(good, 199, "2 at 199");
        BurntOak oak = new BurntOak();
        oak.place(0, 0);
        Town.feed(oak, good);
        Check.thrown("15: a byte more than it has", Check.ARGUMENT, () -> oak.telling(201, 0, 0));
        Check.same("15: all that it has", oak.telling(200, 0, 0), 0);
        Check.same("17: of 200 bytes", oak.sayings(0), 3);
    }

    private static void theHighestByteFirst() {
        for (int at = 0; at < 20; at++) {
            for (int sign : new int[] {0, 127, 128, 255, '!'}) {
                BurntOak oak = new BurntOak();
                oak.place(0, 0);
                int[] five = {0x20202020, 0x20202020, 0x20202020, 0x20202020, 0x20202020};
                int shift = 24 - at % 4 * 8;
                five[at / 4] = five[at / 4] & ~(255 << shift) | sign << shift;
                oak.feed(five[0], five[1], five[2], five[3], five[4]);
                Check.same("14: " + sign + " at " + at, oak.telling(20, 0, 0), -11);
                Check.same("14: " + sign + " is at", oak.fault(1), at);
            }
        }
    }

    private static void feedsToTwoHundred() {
        BurntOak oak = new BurntOak();
        oak.place(0, 0);
        for (int n = 1; n <= 9; n++) {
            oak.feed(0x20202020, 0x20202020, 0x20202020, 0x20202020, 0x20202020);
        }
        Check.same("14: 180 bytes", oak.count(7), 180);
        Check.same("14: the last twenty", oak.feed(0x20202020, 0x20202020, 0x20202020, 0x20202020, 0x2020203b), 200);
        Check.same("14: there would be more than 200", oak.feed(0x3b3b3b3b, 0, 0, 0, 0), -1);
        Check.same("14: and again", oak.feed(0x3b3b3b3b, 0, 0, 0, 0), -1);
        Check.same("14: nothing changed", oak.count(7), 200);
        Check.same("14: what was there is read", oak.telling(200, 0, 0), -12);
        Check.same("14: at the last byte", oak.fault(1), 199);
        Check.same("14: there is room again", oak.feed(0, 0, 0, 0, 0), 20);
    }

    private static void onlyTheFirstBytes() {
        reads("left;!", 5, "0");
        reads("left;!", 6, "1 at 5");
        reads("!", 0, "0");
        reads("on 200;", 5, "2 at 5");
        reads("on 200;", 6, "1 at 3");
        reads("lefts;", 4, "2 at 4");
        reads("lefts;", 5, "2 at 0");
        Edges.refused("15: n below 0", Check.ARGUMENT, RICH, o -> o.telling(-1, 0, 0));
        Edges.refused("15: n above what it has", Check.ARGUMENT, RICH, o -> o.telling(21, 0, 0));
        Edges.refused("15: no such place comes ahead of n", Check.NO_SUCH, RICH, o -> o.telling(-1, 12, 0));
        Edges.refused("15: no such place comes ahead of the teller", Check.NO_SUCH, RICH, o -> o.telling(5, -1, 10));
        Edges.refused("15: the teller, though there is a fault", Check.ARGUMENT, RICH, o -> o.telling(3, 0, -1));
    }

    /** What can stand in each place, and a token of each sort that can't. */
    private static void eachAwaited() {
        String[] names = {"oak", "farm", "bridge", "school", "pond", "church", "inn", "gate", "stone", "mill", "well", "cross"};
        String[] begins = {"on", "past", "far", "see", "over", "loose", "back", "left", "right"};
        String[] others = {"until", "or", "not"};
        awaits("", "3 at 0", begins, names, others);
        awaits("left or ", "3 at 8", begins, names, others);
        awaits("on ", "0", new String[] {"until"}, names, begins, new String[] {"or", "not"});
        awaits("far ", "0", new String[0], names, begins, others);
        awaits("past ", "2 at 5", names, begins, others);
        awaits("see ", "2 at 4", names, begins, others);
        awaits("over ", "2 at 5", names, begins, others);
        awaits("on until ", "2 at 9", names, begins, others);
        awaits("1 left not ", "2 at 11", names, begins, others);
        awaits("1 ", "2 at 2", new String[] {"left", "right"}, names, new String[] {"on", "past", "far", "see", "over", "loose", "back"}, others);
        String[] whole = {"on 1", "on until oak", "past oak", "far 1", "see oak", "over oak", "loose", "back", "left", "right", "1 left not oak",
            "1 right not cross"};
        for (String word : whole) {
            awaits(word + " ", "2 at " + (word.length() + 1), new String[] {"or"}, names, begins, new String[] {"until", "not"});
        }
        for (String word : new String[] {"1 left", "1 right"}) {
            awaits(word + " ", "2 at " + (word.length() + 1), new String[] {"or", "not"}, names, begins, new String[] {"until"});
        }
    }

    /** Behind the beginning these words can stand, those can't; a number (20, and "0" where it can stand) as told. */
    private static void awaits(String beginning, String number, String[] can, String[]... cannot) {
        int at = beginning.length();
        for (String word : can) {
            // The word is taken: what is wrong then is the sign behind it.
            reads(beginning + word + "!", "1 at " + (at + word.length()));
        }
        for (String[] words : cannot) {
            for (String word : words) {
                reads(beginning + word + "!", "2 at " + at);
            }
        }
        boolean numberCan = !number.startsWith("2");
        reads(beginning + "20!", numberCan ? "1 at " + (at + 2) : "2 at " + at);
        reads(beginning + "0;", numberCan ? "3 at " + at : "2 at " + at);
    }

    private static void theLeastKindOfAToken() {
        reads("left 0;", "2 at 5");
        reads("left 21;", "2 at 5");
        reads("left 100;", "1 at 5");
        reads("past 100;", "1 at 5");
        reads("past 0;", "2 at 5");
        reads(TEN + "0 left;", "3 at 50");
        reads(TEN + "21 left;", "3 at 50");
        reads(TEN + "20 left;", "4 at 50");
        reads(TEN + "100 left;", "1 at 50");
        reads(TEN + "until;", "2 at 50");
        reads(TEN + ";", "2 at 50");
        reads("on or", "2 at 3");
        reads("left or left or left or on or", "2 at 27");
    }

    private static void theFirstAlongTheText() {
        reads("left 1; on 0; !", "2 at 5");
        reads("on 0; left 1; !", "3 at 3");
        reads("! on 0;", "1 at 0");
        reads(TEN + "left; on 0; !", "4 at 50");
        reads("left or left or left or left or !", "4 at 29");
        reads("left or left or left or left! or", "1 at 28");
        reads(TEN.substring(0, 45) + "left or left or left or left or left;left;", "4 at 74");
    }

    private static void anEleventhSaying() {
        reads(TEN, "0");
        reads(TEN + " \n ", "0");
        String[] begins = {"on", "past", "far", "see", "over", "loose", "back", "left", "right", "1", "20"};
        for (String word : begins) {
            reads(TEN + word, "4 at 50");
            reads(TEN + "\n " + word + ";", "4 at 52");
        }
        String[] others = {"until", "or", "not", "oak", "cross", "x"};
        for (String word : others) {
            reads(TEN + word, "2 at 50");
        }
        reads(TEN.substring(5) + "1 left not oak or loose or back or on 3;", "0");
    }

    private static void aFourthOr() {
        String three = "left or left or left or left";
        reads(three + ";", "0");
        reads(three + " or left;", "4 at 29");
        reads(three + " or", "4 at 29");
        reads(three + "\nor or", "4 at 29");
        reads(three + ";" + three + ";" + three + ";" + three + ";", "0");
        reads(three + ";" + three + " or", "4 at 58");
        reads(three + ";left or left or left or left;left or left;", "0");
    }

    private static void theTapeIsEmptyThen() {
        for (int n : new int[] {0, 1, 5, 20}) {
            BurntOak oak = new BurntOak();
            oak.place(0, 0);
            Town.feed(oak, "left;");
            oak.telling(n, 0, 0);
            Check.same("15: the tape behind " + n, oak.count(7), 0);
            Check.thrown("15: nothing is left to read", Check.ARGUMENT, () -> oak.telling(1, 0, 0));
            Check.same("14: it begins anew", Town.feed(oak, "right;"), 20);
            Check.so("15: with the new text", oak.telling(6, 0, 0) >= 0);
        }
    }

    private static void theLatestThatReadTheTape() {
        BurntOak oak = new BurntOak();
        oak.place(0, 0);
        Town.tell(oak, "left;!", 0, 0);
        Check.same("16: the fault", oak.fault(0), 1);
        Check.same("16: its place", oak.fault(1), 5);
        Check.thrown("16: a refused one", Check.NO_SUCH, () -> oak.telling(0, 1, 0));
        Check.thrown("16: another", Check.ARGUMENT, () -> oak.telling(1, 0, 0));
        oak.image(0);
        oak.restore(0);
        Check.same("16: didn't read", oak.fault(0), 1);
        Check.same("16: at its place still", oak.fault(1), 5);
        Check.same("15: a telling of nothing", oak.telling(0, 0, 0), 0);
        Check.same("16: has no fault", oak.fault(0), 0);
        Check.same("16: nor a place", oak.fault(1), -1);
        Town.tell(oak, "0", 0, 0);
        Check.same("16: a fault at the first place", oak.fault(1), 0);
        for (int n = 1; n < 12; n++) {
            oak.telling(0, 0, 0);
        }
        Town.feed(oak, "!");
        Check.same("15: there are 12", oak.telling(1, 0, 0), -1);
        Check.same("16: it didn't read", oak.fault(0), 0);
        for (int what : new int[] {-1, 2, Integer.MIN_VALUE, Integer.MAX_VALUE}) {
            Check.same("16: others", oak.fault(what), -1);
        }
    }

    private static void sayingsAreCounted() {
        BurntOak oak = new BurntOak();
        oak.place(0, 0);
        String text = "";
        for (int n = 0; n <= 10; n++) {
            Check.same("15: telling " + n, Town.tell(oak, text, 0, 0), n);
            Check.same("17: sayings", oak.sayings(n), n);
            text += n % 2 == 0 ? "left or right;" : "on 1;";
        }
        Check.thrown("17: one more than there are", Check.NO_SUCH, () -> oak.sayings(11));
    }
}
