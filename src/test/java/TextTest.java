/** Promises 14 to 17, and 38 as far as it counts the tape. */
public final class TextTest {
    private TextTest() {
    }

    public static void main(String[] args) {
        feed();
        feedOrder();
        texts();
        firstFaults();
        tooMany();
        strangeBytes();
        telling();
        full();
        fault();
        Check.finish(TextTest.class);
    }

    private static void feed() {
        BurntOak oak = new BurntOak();
        for (int n = 1; n <= 10; n++) {
            Check.same("14: feed " + n, oak.feed(0, 0, 0, 0, 0), 20 * n);
        }
        Check.same("14: full", oak.feed(0, 0, 0, 0, 0), -1);
        Check.same("38: bytes on the tape", oak.count(7), 200);
    }

    private static void feedOrder() {
        BurntOak oak = new BurntOak();
        oak.place(0, 0);
        // "on until bridge;    ", the highest byte of each int first.
        oak.feed(0x6f6e2075, 0x6e74696c, 0x20627269, 0x6467653b, 0x20202020);
        Check.same("14: read in order", oak.telling(16, 0, 0), 0);
        Town.feed(oak, "on until bridge;left");
        Check.same("14: more come behind", Town.feed(oak, ";right;"), 40);
        Check.same("14: read on over the seam", oak.telling(27, 0, 0), 1);
        Check.same("17: all of them", oak.sayings(1), 3);
    }

    /** What a text answers: "0" without fault, else the fault and its place. */
    private static void reads(String text, String due) {
        BurntOak oak = new BurntOak();
        oak.place(0, 0);
        int got = Town.tell(oak, text, 0, 0);
        int fault = oak.fault(0);
        Check.same("15: '" + text + "'", fault == 0 ? "0" : fault + " at " + oak.fault(1), due);
        Check.same("15: '" + text + "' as a number", got, fault == 0 ? 0 : -10 - fault);
        Check.same("15: the tape behind '" + text + "'", oak.count(7), 0);
        Check.same("15: tellings behind '" + text + "'", oak.count(5), fault == 0 ? 1 : 0);
        if (fault == 0) {
            Check.same("16: no fault's place", oak.fault(1), -1);
        }
    }

    private static void texts() {
        String[] good = {"", " ", "\n \n", "on 1;", "on1;", " on\n20 ; ", "on 05;", "on until oak;", "past mill;", "far 20;", "see inn;",
            "over well;", "loose;", "back;", "left;right;", "1 left;", "20right;", "3 left not oak;", "1left not oak or 2right;",
            "loose or back or left or right;", "1 left or 2 left not oak or far 3 or on until cross;"};
        for (String text : good) {
            reads(text, "0");
        }
        for (String name : Model.NAMES) {
            reads("on until " + name + ";past " + name + ";2 left not " + name + ";see " + name + ";over " + name + ";", "0");
        }
    }

    private static void firstFaults() {
        String[][] bad = {{"on 1", "2 at 4"}, {"on 1 ", "2 at 5"}, {"on", "2 at 2"}, {"on;", "2 at 2"}, {"on left;", "2 at 3"},
            {"on 0;", "3 at 3"}, {"on 00;", "3 at 3"}, {"on 21;", "3 at 3"}, {"on 99", "3 at 3"}, {"on 100;", "1 at 3"},
            {"on 001;", "1 at 3"}, {";", "2 at 0"}, {"on 1;;", "2 at 5"}, {"oak;", "2 at 0"}, {"foo;", "2 at 0"}, {"onn 1;", "2 at 0"}, {"onz 1;", "2 at 0"},
            {"churches;", "2 at 0"}, {"on until;", "2 at 8"}, {"on until oaks;", "2 at 9"}, {"on until bridges;", "2 at 9"},
            {"on until oa;", "2 at 9"}, {"onuntil oak;", "2 at 0"}, {"until oak;", "2 at 0"}, {"past 1;", "2 at 5"}, {"far oak;", "2 at 4"},
            {"far 0;", "3 at 4"}, {"far;", "2 at 3"}, {"see;", "2 at 3"}, {"over left;", "2 at 5"}, {"loose 1;", "2 at 6"},
            {"back back;", "2 at 5"}, {"left not oak;", "2 at 5"}, {"1 left not;", "2 at 10"}, {"1 left not 5;", "2 at 11"},
            {"1 left not oak not oak;", "2 at 15"}, {"1 on;", "2 at 2"}, {"0 left;", "3 at 0"}, {"25 left;", "3 at 0"}, {"1 2 left;", "2 at 2"},
            {"1 0 left;", "2 at 2"}, {"1 100 left;", "1 at 2"}, {"left 0;", "2 at 5"}, {"left 100;", "1 at 5"}, {"not oak;", "2 at 0"},
            {"loose or;", "2 at 8"}, {"loose or", "2 at 8"}, {"or loose;", "2 at 0"}, {"loose or 0 left;", "3 at 9"},
            {"on 0; oak ; !", "3 at 3"}, {"1 ", "2 at 2"}, {"on until ", "2 at 9"}, {"1 left not", "2 at 10"}, {"1", "2 at 1"}};
        for (String[] b : bad) {
            reads(b[0], b[1]);
        }
    }

    private static void tooMany() {
        String four = "loose or loose or loose or loose";
        reads(four + ";", "0");
        reads(four + " or loose;", "4 at 33");
        reads(four + " or", "4 at 33");
        reads(four + " left;", "2 at 33");
        reads("1 left or 1 left or 1 left or 1 left not oak or", "4 at 45");
        String ten = "left;left;left;left;left;left;left;left;left;left;";
        reads(ten, "0");
        reads(ten + "  \n", "0");
        reads(ten + "left;", "4 at 50");
        reads(ten + " on", "4 at 51");
        reads(ten + "5 left;", "4 at 50");
        reads(ten + "0 left;", "3 at 50");
        reads(ten + "21", "3 at 50");
        reads(ten + ";", "2 at 50");
        reads(ten + "oak", "2 at 50");
        reads(ten + "or", "2 at 50");
        reads(ten + "123", "1 at 50");
        reads(ten + "?", "1 at 50");
    }

    private static void strangeBytes() {
        reads("On 1;", "1 at 0");
        reads("onN 1;", "1 at 2");
        reads("oN 1;", "2 at 0");
        reads("on 1,", "1 at 4");
        reads("on\t1;", "1 at 2");
        reads("on\r1;", "1 at 2");
        reads("loose;" + (char) 0, "1 at 6");
        reads("loose;" + (char) 233, "1 at 6");
        reads((char) 255 + "", "1 at 0");
        reads("on -1;", "1 at 3");
        reads("loose:", "1 at 5");
        reads("`", "1 at 0");
        reads("{", "1 at 0");
        reads("/", "1 at 0");
    }

    private static void telling() {
        BurntOak oak = new BurntOak();
        oak.place(0, 0);
        oak.place(1, 1);
        Check.same("15: nothing read", oak.telling(0, 1, 9), 0);
        Check.same("17: no sayings", oak.sayings(0), 0);
        Town.feed(oak, "on 1;left;");
        Check.thrown("15: no goal", Check.NO_SUCH, () -> oak.telling(21, 2, 10));
        Check.thrown("15: no goal -1", Check.NO_SUCH, () -> oak.telling(5, -1, 0));
        Check.thrown("15: n above", Check.ARGUMENT, () -> oak.telling(21, 0, 0));
        Check.thrown("15: n below", Check.ARGUMENT, () -> oak.telling(-1, 0, 0));
        Check.thrown("15: teller 10", Check.ARGUMENT, () -> oak.telling(5, 0, 10));
        Check.thrown("15: teller -1", Check.ARGUMENT, () -> oak.telling(5, 0, -1));
        Check.same("15: the tape stays", oak.count(7), 20);
        Check.same("15: the first 5 bytes", oak.telling(5, 0, 0), 1);
        Check.same("17: one saying", oak.sayings(1), 1);
        Check.same("15: it is empty then", oak.count(7), 0);
        Check.thrown("15: n above nothing", Check.ARGUMENT, () -> oak.telling(1, 0, 0));
        Town.feed(oak, "on 1;left;");
        Check.same("15: all of it, with blanks", oak.telling(20, 0, 0), 2);
        Check.same("17: two sayings", oak.sayings(2), 2);
        Check.thrown("17: no telling", Check.NO_SUCH, () -> oak.sayings(3));
        Check.thrown("17: no telling -1", Check.NO_SUCH, () -> oak.sayings(-1));
    }

    private static void full() {
        BurntOak oak = new BurntOak();
        oak.place(0, 0);
        for (int n = 0; n < 12; n++) {
            Check.same("15: telling " + n, Town.tell(oak, "left;", 0, 0), n);
        }
        Town.feed(oak, "!");
        Check.same("15: a thirteenth", oak.telling(1, 0, 0), -1);
        Check.same("15: the tape stays", oak.count(7), 20);
        Check.same("16: it wasn't read", oak.fault(0), 0);
        Check.thrown("15: full, and teller", Check.ARGUMENT, () -> oak.telling(1, 0, 10));
        Check.thrown("15: full, and goal", Check.NO_SUCH, () -> oak.telling(1, 1, 10));
        Check.same("38: tellings", oak.count(5), 12);
    }

    private static void fault() {
        BurntOak oak = new BurntOak();
        oak.place(0, 0);
        Town.tell(oak, "left; on 0;", 0, 0);
        Check.same("16: the fault", oak.fault(0), 3);
        Check.same("16: its place", oak.fault(1), 9);
        Check.same("16: what 2", oak.fault(2), -1);
        Check.same("16: what -1", oak.fault(-1), -1);
        Check.thrown("16: a telling() that throws", Check.ARGUMENT, () -> oak.telling(1, 0, 0));
        oak.tray(0, 0, 0);
        oak.say(0, 0, 0);
        Check.same("16: is of the latest that read the tape", oak.fault(0), 3);
        Town.tell(oak, "", 0, 0);
        oak.telling(0, 0, 0);
        Check.same("16: no more", oak.fault(0), 0);
        Check.same("16: no place", oak.fault(1), -1);
    }
}
