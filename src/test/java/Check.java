import java.util.NoSuchElementException;

/** What the tests share: they count what is not as due, and end with 1 if there was any. */
final class Check {
    interface Call {
        void make();
    }

    static final Class<NoSuchElementException> NO_SUCH = NoSuchElementException.class;
    static final Class<IllegalArgumentException> ARGUMENT = IllegalArgumentException.class;
    static final Class<IllegalStateException> STATE = IllegalStateException.class;
    static final Class<IndexOutOfBoundsException> INDEX = IndexOutOfBoundsException.class;

    private static int wrong = 0;

    private Check() {
    }

    static void same(String what, long got, long due) {
        if (got != due) {
            fail(what + " answered " + got + ", due is " + due);
        }
    }

    static void same(String what, String got, String due) {
        if (!got.equals(due)) {
            fail(what + " answered " + got + ", due is " + due);
        }
    }

    static void so(String what, boolean so) {
        if (!so) {
            fail(what);
        }
    }

    static void fail(String what) {
        wrong++;
        System.out.println(what);
    }

    static void thrown(String what, Class<? extends RuntimeException> due, Call call) {
        String got = "nothing";
        try {
            call.make();
        } catch (RuntimeException e) {
            got = e.getClass().getSimpleName();
        }
        same(what + " throws", got, due.getSimpleName());
    }

    static void finish(Class<?> test) {
        System.out.println(wrong == 0 ? test.getSimpleName() + ": all as due" : wrong + " not as due");
        if (wrong != 0) {
            System.exit(1);
        }
    }
}
