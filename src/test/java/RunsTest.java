import java.lang.reflect.InvocationTargetException;
import java.lang.reflect.Method;
import java.util.HashMap;
import java.util.Map;
import java.util.TreeMap;

/** Long runs of calls, the same each time, made of the program and of the model: both have to answer alike. */
public final class RunsTest {
    private static final int RUNS = 800;
    private static final int CALLS = 500;

    // How often a call is made, and for each argument its least and its greatest value.
    private static final String[] CALLS_TOLD = {
        "addKind 1 0:7 8:30 2:9 0:99", "buy 6 0:4 1:200", "stock 3 0:5", "thread 4 0:9999",
        "addCloth 3 stitch 2:6 1:5", "state 4 0:3", "draw 60 0:3 0:5 0:4 0:4", "draw 4 0:3 0:5 0:4 -1:-1",
        "kindAt 8 0:3 0:5 0:5",
        "motif 6 0:3 1:6 1:5 -12:12", "setRules 8 0:3 0:15", "broken 10 0:3 rule", "ways 8 0:3 1:4",
        "fill 14 0:3 1:4", "repeat 5 0:3", "isMirrored 5 0:3", "pathLength 2 0:3", "passAt 5 0:3 0:60",
        "work 16 0:3", "passes 12 0:3 0:5 0:5", "snap 16 0:3 0:40", "mend 16 0:3", "rowWidth 4 0:3 0:5",
        "lean 3 0:3", "addShape 3", "addRound 16 0:3 1:12", "addRound 4 0:3 1:199", "bend 12 0:3 0:6", "form 4 0:3",
        "string 20 0:4", "strung 4 0:8", "breakBead 2 0:8", "wrongAt 5 0:3", "crochet 6 0:3", "setWord 4 0:2 0:7 0:9",
        "isClear 2 0:2", "runs 4 0:3 0:5", "runLength 5 0:3 0:5 0:4 bool", "runColour 5 0:3 0:5 0:4 bool",
        "runWord 9 0:3 0:5 0:4 0:2", "shared 6 0:3 0:3 0:3", "guess 6 0:3 0:5 0:5 1:6", "sell 4 0:3", "money 2",
        "account 4 account", "share 4 0:3 0:7", "shareBits 3 0:3 0:7", "checksum 6", "meanWidth 2", "isSound 2"};

    // Few colours and cells, so that strings often are right for a cloth, and stock is used up.
    private static final String[] FEW = {
        "addKind 1 0:1 8:30 2:9 0:99", "buy 1 0:2 1:30", "stock 1 0:3", "thread 1 0:999",
        "addCloth 4 stitch 2:2 1:2", "draw 40 0:5 0:1 0:1 0:2", "motif 6 0:5 1:2 1:2 -12:12", "setRules 3 0:5 0:15",
        "ways 6 0:5 1:4", "fill 6 0:5 1:3", "work 2 0:5", "passes 6 0:5 0:1 0:1", "snap 6 0:5 0:8", "mend 6 0:5",
        "addShape 3", "addRound 4 0:3 1:12", "form 3 0:3", "string 12 0:2", "strung 3 0:3", "breakBead 8 0:3",
        "wrongAt 20 0:5", "crochet 8 0:5", "shared 6 0:5 0:5 0:5", "guess 10 0:5 0:1 0:1 1:2", "sell 1 0:5", "money 2",
        "account 6 account", "checksum 6", "meanWidth 20", "isSound 2"};

    // Cloths up to the largest; two kinds at most fill them, so that the model has few ways to try.
    private static final String[] LARGE = {
        "addKind 1 0:2 8:30 2:9 0:99", "buy 8 0:4 1:999", "stock 1 0:5", "thread 8 0:9999",
        "addCloth 3 stitch 2:12 1:12", "draw 40 0:5 0:11 0:11 0:4", "draw 6 0:5 0:11 0:11 -1:-1",
        "kindAt 6 0:5 0:11 0:11", "motif 30 0:5 1:12 1:12 -12:12", "motif 12 0:5 1:2 1:2 -12:12", "setRules 6 0:5 0:15",
        "broken 12 0:5 rule", "ways 3 0:5 1:2", "fill 3 0:5 1:2", "repeat 6 0:5", "isMirrored 6 0:5",
        "pathLength 3 0:5", "passAt 8 0:5 0:287", "work 12 0:5", "passes 12 0:5 0:11 0:11", "snap 16 0:5 0:287",
        "mend 12 0:5", "rowWidth 4 0:5 0:11", "lean 4 0:5", "string 4 0:4", "wrongAt 4 0:5", "runs 6 0:5 0:11",
        "runLength 6 0:5 0:11 0:11 bool", "runColour 6 0:5 0:11 0:11 bool", "runWord 6 0:5 0:11 0:11 0:2",
        "shared 6 0:5 0:5 0:5", "guess 10 0:5 0:11 0:11 1:12", "sell 2 0:5", "share 6 0:5 0:7", "shareBits 4 0:5 0:7",
        "account 4 account", "checksum 6", "isSound 2"};

    private static long seed;
    private static final Map<String, Integer> outcomes = new TreeMap<>();

    public static void main(String[] args) throws ReflectiveOperationException {
        Map<String, Method> ofProgram = methodsOf(Beadslant.class);
        Map<String, Method> ofModel = methodsOf(Model.class);
        for (int run = 0; run < RUNS; run++) {
            seed = run * 7919L + 17;
            oneRun(run, run % 4 == 0 ? LARGE : run % 4 == 1 ? FEW : CALLS_TOLD, ofProgram, ofModel);
        }
        eachOutcomeWasSeen(ofProgram);
        Due.end();
    }

    private static Map<String, Method> methodsOf(Class<?> type) {
        Map<String, Method> found = new HashMap<>();
        for (Method method : type.getDeclaredMethods()) {
            if (java.lang.reflect.Modifier.isPublic(method.getModifiers())) {
                found.put(method.getName(), method);
            }
        }
        return found;
    }

    private static String[][] bagOf(String[] calls) {
        java.util.List<String[]> bag = new java.util.ArrayList<>();
        for (String told : calls) {
            String[] parts = told.split(" ");
            for (int i = 0; i < Integer.parseInt(parts[1]); i++) {
                bag.add(parts);
            }
        }
        return bag.toArray(new String[0][]);
    }

    private static int next(int bound) {
        seed = seed * 6364136223846793005L + 1442695040888963407L;
        return (int) ((seed >>> 33) % bound);
    }

    private static void oneRun(int run, String[] calls, Map<String, Method> ofProgram, Map<String, Method> ofModel)
            throws ReflectiveOperationException {
        String[][] bag = bagOf(calls);
        Beadslant x = new Beadslant();
        Model m = new Model();
        for (int call = 0; call < CALLS; call++) {
            String[] parts = call < 12 ? calls[call < 5 ? 0 : call < 8 ? 1 : call < 10 ? 3 : 4].split(" ")
                    : bag[next(bag.length)];
            Object[] arguments = new Object[parts.length - 2];
            boolean isPlain = next(16) > 0;
            for (int i = 0; i < arguments.length; i++) {
                arguments[i] = argument(parts[i + 2], isPlain);
            }
            String want = answer(ofModel.get(parts[0]), m, arguments);
            String got = answer(ofProgram.get(parts[0]), x, arguments);
            outcomes.merge(parts[0] + (want.startsWith("throws") ? " " + want : ""), 1, Integer::sum);
            if (!got.equals(want) || call % 10 == 0 && x.checksum() != m.checksum()) {
                Due.complain("run " + run + " call " + call + ": " + parts[0]
                        + java.util.Arrays.toString(arguments) + " answered " + got + ", due is " + want);
                return;
            }
        }
        Due.is("checksum() behind run " + run, x.checksum(), m.checksum());
        Due.is("isSound() behind run " + run, x.isSound(), true);
    }

    private static Object argument(String told, boolean isPlain) {
        switch (told) {
            case "stitch":
                return isPlain ? "lpb".charAt(next(3)) : (char) next(256);
            case "account":
                return isPlain ? "bstcxl".charAt(next(6)) : (char) next(256);
            case "bool":
                return next(2) == 0;
            case "rule":
                return isPlain ? 1 << next(4) : next(20) - 2;
            default:
                int colon = told.indexOf(':');
                int least = Integer.parseInt(told.substring(0, colon));
                int most = Integer.parseInt(told.substring(colon + 1));
                if (!isPlain && next(3) == 0) {
                    int[] strange = {-1, least - 1, most + 1, 2 * most, Integer.MIN_VALUE, Integer.MAX_VALUE};
                    return strange[next(strange.length)];
                }
                return least + next(most - least + 1);
        }
    }

    private static String answer(Method method, Object of, Object[] arguments) throws ReflectiveOperationException {
        try {
            return String.valueOf(method.invoke(of, arguments));
        } catch (InvocationTargetException e) {
            return "throws " + e.getCause().getClass().getSimpleName();
        }
    }

    /** Runs that never come to an exception, or to an answer, would compare nothing there. */
    private static void eachOutcomeWasSeen(Map<String, Method> ofProgram) {
        for (Method method : ofProgram.values()) {
            isSeen(method.getName());
            for (Class<?> thrown : method.getExceptionTypes()) {
                boolean isBound = thrown == IllegalStateException.class
                        && (method.getName().equals("buy") || method.getName().equals("thread")
                        || method.getName().equals("string") || method.getName().equals("addRound"));
                if (!isBound) {
                    isSeen(method.getName() + " throws " + thrown.getSimpleName());
                }
            }
        }
    }

    private static void isSeen(String outcome) {
        if (outcomes.getOrDefault(outcome, 0) < 3) {
            Due.complain(outcome + " was seen only " + outcomes.getOrDefault(outcome, 0) + " times");
        }
    }
}
