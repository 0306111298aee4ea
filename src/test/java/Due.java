import java.util.Map;
import java.util.TreeMap;
import java.util.TreeSet;
import java.util.function.IntConsumer;

/** Counts answers that are not due; a test ends with Due.end. */
final class Due {
    interface Call {
        void make();
    }

    private static int checks = 0;
    private static int wrong = 0;
    private static String sentence = "";
    private static final Map<Integer, Integer> sentences = new TreeMap<>();
    private static final TreeSet<String> refusals = new TreeSet<>();
    private static final TreeSet<String> orders = new TreeSet<>();

    private Due() {
    }

    /** The test of one sentence of a promise; what is complained of in it is told with the sentence. */
    static void sentence(int promise, String told, Call test) {
        int before = checks;
        sentence = "promise " + promise + ", " + told + ": ";
        try {
            test.make();
        } catch (RuntimeException e) {
            complain("broken off by " + e + " at " + e.getStackTrace()[0]);
        }
        if (checks == before) {
            complain("nothing was checked");
        }
        sentence = "";
        sentences.merge(promise, 1, Integer::sum);
    }

    static int sentencesOf(int promise) {
        return sentences.getOrDefault(promise, 0);
    }

    /** Each method with an exception that was due of it, as "stock IndexOutOfBoundsException". */
    static TreeSet<String> refusals() {
        return refusals;
    }

    /** Each method with two exceptions that applied together, the one that was due first. */
    static TreeSet<String> orders() {
        return orders;
    }

    static void is(String call, long got, long want) {
        checks++;
        if (got != want) {
            complain(call + " answered " + got + ", due is " + want);
        }
    }

    static void is(String call, boolean got, boolean want) {
        is(call, got ? 1 : 0, want ? 1 : 0);
    }

    static void isNumber(String call, double got, double want) {
        checks++;
        if (got != want) {
            complain(call + " answered " + got + ", due is " + want);
        }
    }

    static void isText(String call, String got, String want) {
        checks++;
        if (!got.equals(want)) {
            complain(call + " is " + got + ", due is " + want);
        }
    }

    /** The call has to throw just this exception, and to change nothing. */
    static void fails(Beadslant x, String call, Class<? extends RuntimeException> want, Call made) {
        checks++;
        refusals.add(methodOf(call) + " " + want.getSimpleName());
        String before = Sight.of(x);
        try {
            made.make();
            complain(call + " threw nothing, due is " + want.getSimpleName());
        } catch (RuntimeException e) {
            if (e.getClass() != want) {
                complain(call + " threw " + e.getClass().getSimpleName() + ", due is " + want.getSimpleName());
            }
        }
        if (!Sight.of(x).equals(before)) {
            complain(call + " threw, but changed something");
        }
    }

    /** The call has to throw the first one of two exceptions that apply together. */
    static void failsFirst(Beadslant x, String call, Class<? extends RuntimeException> want,
            Class<? extends RuntimeException> also, Call made) {
        fails(x, call, want, made);
        orders.add(methodOf(call) + " " + want.getSimpleName() + " " + also.getSimpleName());
    }

    /**
     * The call, its number written '#', has to be refused for the numbers beside the bounds and far off, those too
     * that would be inside if they were cut to eight or sixteen bits.
     */
    static void outside(Beadslant x, String call, int least, int most, Class<? extends RuntimeException> want,
            IntConsumer made) {
        long[] numbers = {least - 1L, most + 1L, Integer.MIN_VALUE, Integer.MAX_VALUE, least + 256L, most - 256L,
            least + 65536L, most - 65536L, Integer.MIN_VALUE + (long) most};
        for (long number : numbers) {
            if (number < least || number > most) {
                fails(x, call.replace("#", Long.toString(number)), want, () -> made.accept((int) number));
            }
        }
    }

    private static String methodOf(String call) {
        int end = 0;
        while (end < call.length() && Character.isLetter(call.charAt(end))) {
            end++;
        }
        return call.substring(0, end);
    }

    static void complain(String what) {
        wrong++;
        System.out.println(sentence + what);
    }

    static void end() {
        System.out.println(checks + " checks, " + wrong + " wrong");
        if (wrong != 0) {
            System.exit(1);
        }
    }
}
