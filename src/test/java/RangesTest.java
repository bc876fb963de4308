import java.lang.reflect.InvocationTargetException;
import java.lang.reflect.Method;
import java.util.ArrayList;
import java.util.List;

/**
 * Of each argument of each call: the last value that is taken and the first that is refused on either side, and the
 * ends of its kind; which exception comes, and which of several; and that a refused call changes nothing.
 */
public final class RangesTest {
    /**
     * In the world of {@link Edges#rich()}: promise, call, and of each argument the range that is taken. N: beyond it
     * comes NoSuchElementException, A: IllegalArgumentException, X: IndexOutOfBoundsException. A star: each is taken,
     * and NONE answered for strange ones; a dash: each is taken.
     */
    private static final String CALLS = """
            2  place 30 31                    A0..99 A0..99
            3  way 5 6 0 1 0 200              N0..11 N0..11 A0..2 A1..99 A0..200 A0..200
            3  way 5 6 2 99 70 80             N0..11 N0..11 A0..2 A1..99 A0..80 A70..200
            4  mark 0 0 true 0 200            N0..11 A0..11 - A0..200 A0..200
            4  mark 11 11 false 70 80         N0..11 A0..11 - A0..80 A70..200
            5  ends true 0 200                - N0..10 A0..200
            5  ends false 0 75                - N0..4 A0..200
            5  ends false 4 75                - N0..4 A50..100
            6  state 0 0                      N0..43 A0..2
            7  out 0 0 9                      N0..43 A0..2 A0..200
            8  on 0 9 0                       N0..43 A0..200 *
            10 means 0 0 1                    N0..1 N0..11 A0..4095
            11 walker 0 4095 false true 10    N0..1 A0..4095 - - A1..20
            12 stands 0 0 2 9 false           N0..5 N0..11 N0..11 A0..200 -
            12 stands 0 0 2 9 true            N0..5 N0..11 N0..11 A0..200 -
            13 worth 0 1 9 0                  N0..4 A0..63 A0..200 A0..1
            13 worth 4 1 49 1                 N0..4 A0..63 A0..200 A0..1
            15 telling 5 0 0                  A0..20 N0..11 A0..9
            16 fault 0                        *
            17 sayings 0                      N0..3
            18 leads 1 0 1 9 0 0              N0..3 N0..5 N0..43 A0..200 A0..3 *
            18 leads 3 0 1 9 0 0              N0..3 N0..5 N0..43 A0..200 A0..0 *
            19 holds 0 0 1 9                  N0..3 N0..5 N0..43 A0..200
            20 end 0 0 1 9 0                  N0..3 N0..5 N0..43 A0..200 *
            21 right 0 0 1 9                  N0..3 N0..5 N0..43 A0..200
            22 odds 0 0 1 9 0                 N0..3 N0..5 N0..43 A0..200 N0..11
            23 parts 0 0 1 9                  N0..3 N0..5 N0..43 A0..200
            24 hangs 0 0 0 9 true             N0..3 N0..5 N0..11 A0..200 -
            25 years 0 0 1 0                  N0..3 N0..5 N0..43 A0..2
            26 two 0 1 0 1 0 9 0              N0..3 N0..43 N0..3 N0..43 N0..5 A0..200 A0..1
            27 ask 0 0 1 1 9 5 true           N0..3 N0..5 N0..5 N0..43 A0..200 A0..1000000 -
            27 ask 0 0 1 1 9 5 false          N0..3 N0..5 N0..5 N0..43 A0..200 A0..1000000 -
            28 shortest 1 1 7 9 1 0           A1..63 N0..43 N0..11 A0..200 A1..3 *
            29 went 0 0 1 9 7                 N0..5 N0..3 N0..43 A0..200 N0..11
            30 learned 0 0                    N0..5 N0..11
            32 told 0 true                    A0..9 -
            33 tray 0 0 2                     N0..3 A0..3 A0..12
            34 write 0 0 5                    N0..3 X0..1 -
            34 write 1 0 5                    N0..3 X0..10 -
            35 say 0 0 0                      N0..3 N0..11 A0..9
            36 image 0                        N0..2
            37 restore 0                      N0..2
            38 count 0                        *
            """;

    private record Range(long low, long high, Class<? extends RuntimeException> beyond) { }

    private final String call;
    private final Method method;
    private final List<Object> base = new ArrayList<>();
    private final List<Range> ranges = new ArrayList<>();
    private final List<Boolean> stars = new ArrayList<>();

    private static String untouched;

    private RangesTest(String line) {
        String[] words = line.trim().split(" +");
        call = words[0] + ": " + words[1];
        method = methodOf(words[1]);
        Class<?>[] kinds = method.getParameterTypes();
        for (int n = 0; n < kinds.length; n++) {
            base.add(argument(kinds[n], words[2 + n]));
            ranges.add(range(words[2 + kinds.length + n]));
            stars.add(words[2 + kinds.length + n].equals("*"));
        }
    }

    private static Method methodOf(String name) {
        for (Method m : BurntOak.class.getDeclaredMethods()) {
            if (m.getName().equals(name)) {
                return m;
            }
        }
        throw new IllegalStateException(name);
    }

    private static Object argument(Class<?> kind, String text) {
        return kind == boolean.class ? (Object) Boolean.valueOf(text) : number(kind, Long.parseLong(text));
    }

    private static Object number(Class<?> kind, long n) {
        if (kind == long.class) {
            return n;
        }
        return (int) n;
    }

    private static Range range(String text) {
        if (text.length() == 1) {
            return null;
        }
        String[] ends = text.substring(1).split("\\.\\.");
        char beyond = text.charAt(0);
        return new Range(Long.parseLong(ends[0]), Long.parseLong(ends[1]),
                beyond == 'N' ? Check.NO_SUCH : beyond == 'A' ? Check.ARGUMENT : Check.INDEX);
    }

    public static void main(String[] args) {
        untouched = Edges.everything(Edges.rich());
        for (String line : CALLS.split("\n")) {
            RangesTest test = new RangesTest(line);
            test.taken();
            test.refused();
            test.severalWrong();
            test.strange();
        }
        Check.finish(RangesTest.class);
    }

    private List<Object> with(List<Object> args, int n, long value) {
        List<Object> changed = new ArrayList<>(args);
        changed.set(n, number(method.getParameterTypes()[n], value));
        return changed;
    }

    /** What a call answers, or the name of what it throws. */
    private String answer(BurntOak oak, List<Object> args) {
        try {
            return String.valueOf(method.invoke(oak, args.toArray()));
        } catch (InvocationTargetException e) {
            return e.getCause().getClass().getSimpleName();
        } catch (IllegalAccessException e) {
            return e.toString();
        }
    }

    /** The last value on either side is taken. */
    private void taken() {
        for (int n = 0; n < base.size(); n++) {
            Range range = ranges.get(n);
            if (range != null) {
                for (long value : new long[] {range.low, range.high}) {
                    List<Object> args = with(base, n, value);
                    String got = answer(Edges.rich(), args);
                    Check.so(call + args + " is taken, but " + got, !got.contains("Exception"));
                }
            }
        }
    }

    private static long[] beyond(Range range) {
        return new long[] {range.low - 1, range.high + 1, Integer.MIN_VALUE, Integer.MAX_VALUE};
    }

    /** The first value on either side is refused, and so are the ends of the kind. */
    private void refused() {
        for (int n = 0; n < base.size(); n++) {
            Range range = ranges.get(n);
            if (range != null) {
                for (long value : beyond(range)) {
                    throwsAndChangesNothing(with(base, n, value), range.beyond);
                }
            }
        }
    }

    /** Of two wrong arguments, whichever they are, and of all at once: what is told first comes. */
    private void severalWrong() {
        List<Object> all = base;
        Class<? extends RuntimeException> first = null;
        for (int n = 0; n < base.size(); n++) {
            if (ranges.get(n) == null) {
                continue;
            }
            for (int m = 0; m < n; m++) {
                if (ranges.get(m) != null) {
                    List<Object> args = with(with(base, n, ranges.get(n).high + 1), m, ranges.get(m).low - 1);
                    throwsAndChangesNothing(args, toldFirst(ranges.get(n).beyond, ranges.get(m).beyond));
                }
            }
            all = with(all, n, ranges.get(n).high + 1);
            first = first == null ? ranges.get(n).beyond : toldFirst(first, ranges.get(n).beyond);
        }
        if (first != null) {
            throwsAndChangesNothing(all, first);
        }
    }

    private Class<? extends RuntimeException> toldFirst(Class<? extends RuntimeException> one, Class<? extends RuntimeException> other) {
        for (Class<?> told : method.getExceptionTypes()) {
            if (told == one || told == other) {
                return told == one ? one : other;
            }
        }
        return one;
    }

    private void throwsAndChangesNothing(List<Object> args, Class<? extends RuntimeException> due) {
        BurntOak oak = Edges.rich();
        Check.same(call + args, answer(oak, args), due.getSimpleName());
        Check.same(call + args + " changes nothing:", Edges.everything(oak), untouched);
    }

    /** Where each number is taken, there is nothing for strange ones. */
    private void strange() {
        for (int n = 0; n < base.size(); n++) {
            if (stars.get(n)) {
                for (long value : new long[] {-2, 999, Integer.MIN_VALUE, Integer.MAX_VALUE}) {
                    List<Object> args = with(base, n, value);
                    Check.same(call + args, answer(Edges.rich(), args), "-1");
                }
            }
        }
    }
}
