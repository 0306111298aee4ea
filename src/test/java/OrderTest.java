import java.lang.reflect.Method;
import java.lang.reflect.Modifier;
import java.util.Arrays;
import java.util.NoSuchElementException;
import java.util.TreeSet;

/** "If several exceptions apply, the one that is listed first is thrown": each two that can apply together. */
public final class OrderTest {
    private static final Class<IndexOutOfBoundsException> X = IndexOutOfBoundsException.class;
    private static final Class<IllegalArgumentException> A = IllegalArgumentException.class;
    private static final Class<IllegalStateException> S = IllegalStateException.class;
    private static final Class<UnsupportedOperationException> U = UnsupportedOperationException.class;
    private static final Class<NoSuchElementException> N = NoSuchElementException.class;

    // What is told of a cloth, shape or kind cannot be so of one that does not exist.
    private static final TreeSet<String> NEVER = new TreeSet<>(Arrays.asList(
            "buy X S", "motif X U", "fill X N", "repeat X U", "isMirrored X U", "work X U", "snap X U", "mend X U",
            "addRound X S", "string X U", "wrongAt X U", "wrongAt X N", "crochet X U", "sell X U",
            "share X N", "shareBits X N"));

    public static void main(String[] args) {
        beads();
        cloths();
        waysAndFill();
        fillWithoutAWay();
        paths();
        rounds();
        string();
        wrongAt();
        runs();
        copies();
        shares();
        eachTwoWereSeen();
        Due.end();
    }

    private static void beads() {
        Beadslant x = new Beadslant();
        for (int kind = 0; kind < 8; kind++) {
            x.addKind(0, 8, 2, 0);
        }
        Due.failsFirst(x, "addKind(8, 8, 2, 0) of a ninth", A, S, () -> x.addKind(8, 8, 2, 0));
        Due.failsFirst(x, "addKind(-1, 8, 2, 0) of a ninth", A, S, () -> x.addKind(-1, 8, 2, 0));
        Due.failsFirst(x, "addKind(0, 7, 2, 0) of a ninth", A, S, () -> x.addKind(0, 7, 2, 0));
        Due.failsFirst(x, "addKind(0, 31, 2, 0) of a ninth", A, S, () -> x.addKind(0, 31, 2, 0));
        Due.failsFirst(x, "addKind(0, 8, 1, 0) of a ninth", A, S, () -> x.addKind(0, 8, 1, 0));
        Due.failsFirst(x, "addKind(0, 8, 10, 0) of a ninth", A, S, () -> x.addKind(0, 8, 10, 0));
        Due.failsFirst(x, "addKind(0, 8, 2, -1) of a ninth", A, S, () -> x.addKind(0, 8, 2, -1));
        Due.failsFirst(x, "addKind(0, 8, 2, 100) of a ninth", A, S, () -> x.addKind(0, 8, 2, 100));
        Due.failsFirst(x, "buy(8, 0)", X, A, () -> x.buy(8, 0));
        Due.failsFirst(x, "buy(-1, 1000)", X, A, () -> x.buy(-1, 1000));
        Beadslant full = Bench.ofOneKind(8, 2, 99999, 999999);
        Due.failsFirst(full, "buy(0, 0) of a full stock", A, S, () -> full.buy(0, 0));
        Due.failsFirst(full, "buy(0, 1000) of a full stock", A, S, () -> full.buy(0, 1000));
        Due.failsFirst(full, "thread(10000) of a full one", A, S, () -> full.thread(10000));
        Due.failsFirst(full, "thread(MAX) of a full one", A, S, () -> full.thread(Integer.MAX_VALUE));
    }

    private static void cloths() {
        Beadslant x = Bench.inEachState();
        x.addCloth('l', 4, 4);
        x.addCloth('l', 4, 4);
        Due.failsFirst(x, "addCloth('m', 2, 1) of a seventh", A, S, () -> x.addCloth('m', 2, 1));
        Due.failsFirst(x, "addCloth('l', 1, 1) of a seventh", A, S, () -> x.addCloth('l', 1, 1));
        Due.failsFirst(x, "addCloth('l', 13, 1) of a seventh", A, S, () -> x.addCloth('l', 13, 1));
        Due.failsFirst(x, "addCloth('l', 2, 0) of a seventh", A, S, () -> x.addCloth('l', 2, 0));
        Due.failsFirst(x, "addCloth('l', 2, 13) of a seventh", A, S, () -> x.addCloth('l', 2, 13));
        for (int cloth = Bench.WORKED; cloth <= Bench.SOLD; cloth++) {
            int c = cloth;
            Due.failsFirst(x, "draw(" + c + ", 1, 0, 0)", X, U, () -> x.draw(c, 1, 0, 0));
            Due.failsFirst(x, "draw(" + c + ", 0, 3, 0)", X, U, () -> x.draw(c, 0, 3, 0));
            Due.failsFirst(x, "draw(" + c + ", 0, 0, 4)", X, U, () -> x.draw(c, 0, 0, 4));
            Due.failsFirst(x, "draw(" + c + ", 0, 0, -2)", X, U, () -> x.draw(c, 0, 0, -2));
            Due.failsFirst(x, "motif(" + c + ", 4, 1, 0)", A, U, () -> x.motif(c, 4, 1, 0));
            Due.failsFirst(x, "motif(" + c + ", 1, 2, 0)", A, U, () -> x.motif(c, 1, 2, 0));
            Due.failsFirst(x, "motif(" + c + ", 1, 1, 13)", A, U, () -> x.motif(c, 1, 1, 13));
        }
        Due.failsFirst(x, "motif(4, 5, 1, 0) of an empty block", A, U, () -> x.motif(4, 5, 1, 0));
        Due.failsFirst(x, "motif(4, 1, 0, 0) of an empty block", A, U, () -> x.motif(4, 1, 0, 0));
        Due.failsFirst(x, "motif(4, 1, 1, -13) of an empty block", A, U, () -> x.motif(4, 1, 1, -13));
        Due.failsFirst(x, "motif(6, 0, 1, 0)", X, A, () -> x.motif(6, 0, 1, 0));
        Due.failsFirst(x, "motif(-1, 1, 13, 0)", X, A, () -> x.motif(-1, 1, 13, 0));
        Due.failsFirst(x, "motif(6, 1, 1, 13)", X, A, () -> x.motif(6, 1, 1, 13));
        Due.failsFirst(x, "setRules(6, 16)", X, A, () -> x.setRules(6, 16));
        Due.failsFirst(x, "setRules(-1, -1)", X, A, () -> x.setRules(-1, -1));
        Due.failsFirst(x, "broken(6, 3)", X, A, () -> x.broken(6, 3));
        Due.failsFirst(x, "broken(-1, 0)", X, A, () -> x.broken(-1, 0));
    }

    private static void waysAndFill() {
        Beadslant x = Bench.inEachState();
        x.addCloth('l', 12, 12);
        Due.failsFirst(x, "ways(5, 0)", X, A, () -> x.ways(5, 0));
        Due.failsFirst(x, "ways(-1, 5)", X, A, () -> x.ways(-1, 5));
        Due.failsFirst(x, "fill(5, 0)", X, A, () -> x.fill(5, 0));
        Due.failsFirst(x, "fill(-1, 5)", X, A, () -> x.fill(-1, 5));
        for (int cloth = Bench.WORKED; cloth <= 4; cloth++) {
            int c = cloth;
            Due.failsFirst(x, "ways(" + c + ", 0)", A, U, () -> x.ways(c, 0));
            Due.failsFirst(x, "ways(" + c + ", 5)", A, U, () -> x.ways(c, 5));
            Due.failsFirst(x, "fill(" + c + ", 0)", A, U, () -> x.fill(c, 0));
            Due.failsFirst(x, "fill(" + c + ", 5)", A, U, () -> x.fill(c, 5));
        }
        Beadslant poor = new Beadslant();
        Due.failsFirst(poor, "ways(0, 1) without kinds and cloths", X, U, () -> poor.ways(0, 1));
        Due.failsFirst(poor, "fill(0, 1) without kinds and cloths", X, U, () -> poor.fill(0, 1));
        poor.addCloth('l', 2, 1);
        Due.failsFirst(poor, "ways(0, 5) without kinds", A, U, () -> poor.ways(0, 5));
        Due.failsFirst(poor, "fill(0, 5) without kinds", A, U, () -> poor.fill(0, 5));
    }

    private static void fillWithoutAWay() {
        Beadslant x = Bench.stocked();
        ClothsTest.newCloth(x, 'l', "00");
        ClothsTest.newCloth(x, 'l', "00");
        ClothsTest.newCloth(x, 'l', "00......", "........");
        for (int cloth = 0; cloth < 3; cloth++) {
            x.setRules(cloth, 1);
        }
        Due.failsFirst(x, "fill(0, 0) without a way", A, N, () -> x.fill(0, 0));
        Due.failsFirst(x, "fill(0, 5) without a way", A, N, () -> x.fill(0, 5));
        x.work(1);
        Due.failsFirst(x, "fill(1, 1) of a worked cloth without a way", U, N, () -> x.fill(1, 1));
        Due.failsFirst(x, "fill(2, 1) of too many cells without a way", U, N, () -> x.fill(2, 1));
        Beadslant poor = Bench.ofOneKind(8, 2, 0, 0);
        Bench.plain(poor, 'l', 2, 1, 0);
        poor.setRules(0, 1);
        Due.failsFirst(poor, "fill(0, 2) of one kind without a way", U, N, () -> poor.fill(0, 2));
    }

    private static void paths() {
        Beadslant x = Bench.inEachState();
        Due.failsFirst(x, "passAt(4, -1)", X, N, () -> x.passAt(4, -1));
        Due.failsFirst(x, "passAt(-1, 288)", X, N, () -> x.passAt(-1, 288));
        Due.failsFirst(x, "passes(0, 1, 0) of a drawn one", X, U, () -> x.passes(Bench.DRAWN, 1, 0));
        Due.failsFirst(x, "passes(0, 0, -1) of a drawn one", X, U, () -> x.passes(Bench.DRAWN, 0, -1));
        Due.failsFirst(x, "snap(4, -1)", X, N, () -> x.snap(4, -1));
        Due.failsFirst(x, "snap(-1, 288)", X, N, () -> x.snap(-1, 288));
        for (int cloth : new int[] {Bench.DRAWN, Bench.GAPPED, Bench.SOLD}) {
            Due.failsFirst(x, "snap(" + cloth + ", 6)", N, U, () -> x.snap(cloth, 6));
            Due.failsFirst(x, "snap(" + cloth + ", -1)", N, U, () -> x.snap(cloth, -1));
        }
    }

    private static void rounds() {
        Beadslant x = new Beadslant();
        x.addShape();
        for (int round = 0; round < 20; round++) {
            x.addRound(0, 6);
        }
        Due.failsFirst(x, "addRound(1, 0)", X, A, () -> x.addRound(1, 0));
        Due.failsFirst(x, "addRound(-1, 200)", X, A, () -> x.addRound(-1, 200));
        Due.failsFirst(x, "addRound(0, 0) of a 21st", A, S, () -> x.addRound(0, 0));
        Due.failsFirst(x, "addRound(0, 200) of a 21st", A, S, () -> x.addRound(0, 200));
        Due.failsFirst(x, "bend(1, 0)", X, N, () -> x.bend(1, 0));
        Due.failsFirst(x, "bend(-1, 20)", X, N, () -> x.bend(-1, 20));
    }

    private static void string() {
        Beadslant x = Bench.ofOneKind(8, 2, 144, 0);
        Bench.strings(x, 0, 144);
        Due.failsFirst(x, "string(0) of a full string, without stock", U, S, () -> x.string(0));
        Due.failsFirst(x, "string(1) of a full string, no such kind", X, S, () -> x.string(1));
        Due.failsFirst(x, "string(-1) of a full string, no such kind", X, S, () -> x.string(-1));
        x.buy(0, 1);
        Due.fails(x, "string(0) of a full string, with stock", S, () -> x.string(0));
    }

    private static void wrongAt() {
        Beadslant x = Bench.inEachState();
        x.mend(Bench.GAPPED);
        x.string(2);
        x.string(1);
        x.string(0);
        Due.fails(x, "wrongAt of a drawn one", N, () -> x.wrongAt(Bench.DRAWN));
        for (int cloth = Bench.WORKED; cloth <= Bench.SOLD; cloth++) {
            int c = cloth;
            Due.failsFirst(x, "wrongAt(" + c + ") for which the string is not wrong", U, N, () -> x.wrongAt(c));
        }
    }

    private static void runs() {
        Beadslant x = Bench.inEachState();
        for (boolean isLeft : new boolean[] {false, true}) {
            Due.failsFirst(x, "runLength(4, 0, -1)", X, N, () -> x.runLength(4, 0, -1, isLeft));
            Due.failsFirst(x, "runLength(0, 1, -1)", X, N, () -> x.runLength(0, 1, -1, isLeft));
            Due.failsFirst(x, "runLength(0, -1, 3)", X, N, () -> x.runLength(0, -1, 3, isLeft));
            Due.failsFirst(x, "runColour(4, 0, -1)", X, N, () -> x.runColour(4, 0, -1, isLeft));
            Due.failsFirst(x, "runColour(0, 1, -1)", X, N, () -> x.runColour(0, 1, -1, isLeft));
            Due.failsFirst(x, "runColour(0, -1, 3)", X, N, () -> x.runColour(0, -1, 3, isLeft));
        }
        Due.failsFirst(x, "runWord(4, 0, 0, 3)", X, A, () -> x.runWord(4, 0, 0, 3));
        Due.failsFirst(x, "runWord(0, 1, 0, -1)", X, A, () -> x.runWord(0, 1, 0, -1));
        Due.failsFirst(x, "runWord(-1, 0, -1, 0)", X, N, () -> x.runWord(-1, 0, -1, 0));
        Due.failsFirst(x, "runWord(0, 1, -1, 0)", X, N, () -> x.runWord(0, 1, -1, 0));
        Due.failsFirst(x, "runWord(0, 0, 3, 3)", A, N, () -> x.runWord(0, 0, 3, 3));
        Due.failsFirst(x, "runWord(0, 0, -1, -1)", A, N, () -> x.runWord(0, 0, -1, -1));
    }

    private static void copies() {
        Beadslant x = new Beadslant();
        x.addCloth('l', 3, 2);
        x.addCloth('p', 3, 2);
        Due.failsFirst(x, "shared(0, 1, 2)", X, U, () -> x.shared(0, 1, 2));
        Due.failsFirst(x, "shared(0, 2, 1)", X, U, () -> x.shared(0, 2, 1));
        Due.failsFirst(x, "shared(2, 0, 1)", X, U, () -> x.shared(2, 0, 1));
        Due.failsFirst(x, "shared(0, 1, -1)", X, U, () -> x.shared(0, 1, -1));
        Due.failsFirst(x, "guess(2, 0, 0, 0)", X, A, () -> x.guess(2, 0, 0, 0));
        Due.failsFirst(x, "guess(0, 2, 0, 13)", X, A, () -> x.guess(0, 2, 0, 13));
        Due.failsFirst(x, "guess(0, 0, -1, 0)", X, A, () -> x.guess(0, 0, -1, 0));
        Due.failsFirst(x, "guess(0, 0, 3, 1) of an empty row", X, N, () -> x.guess(0, 0, 3, 1));
        Due.failsFirst(x, "guess(0, 0, -1, 1) of an empty row", X, N, () -> x.guess(0, 0, -1, 1));
        Due.failsFirst(x, "guess(0, 0, 0, 0) of an empty row", A, N, () -> x.guess(0, 0, 0, 0));
        Due.failsFirst(x, "guess(0, 0, 0, 13) of an empty row", A, N, () -> x.guess(0, 0, 0, 13));
    }

    private static void shares() {
        Beadslant x = new Beadslant();
        x.addCloth('l', 2, 1);
        Due.failsFirst(x, "share(1, 8)", X, A, () -> x.share(1, 8));
        Due.failsFirst(x, "share(-1, -1)", X, A, () -> x.share(-1, -1));
        Due.failsFirst(x, "share(0, 8) of an empty cloth", A, N, () -> x.share(0, 8));
        Due.failsFirst(x, "share(0, -1) of an empty cloth", A, N, () -> x.share(0, -1));
        Due.failsFirst(x, "shareBits(1, 8)", X, A, () -> x.shareBits(1, 8));
        Due.failsFirst(x, "shareBits(-1, -1)", X, A, () -> x.shareBits(-1, -1));
        Due.failsFirst(x, "shareBits(0, 8) of an empty cloth", A, N, () -> x.shareBits(0, 8));
        Due.failsFirst(x, "shareBits(0, -1) of an empty cloth", A, N, () -> x.shareBits(0, -1));
    }

    /** Each two exceptions of a method, in the order in which the face lists them, but for those of NEVER. */
    private static void eachTwoWereSeen() {
        int two = 0;
        for (Method method : Beadslant.class.getDeclaredMethods()) {
            Class<?>[] thrown = method.getExceptionTypes();
            for (int first = 0; Modifier.isPublic(method.getModifiers()) && first < thrown.length; first++) {
                for (int later = first + 1; later < thrown.length; later++) {
                    String told = method.getName() + " " + thrown[first].getSimpleName() + " "
                            + thrown[later].getSimpleName();
                    String brief = method.getName() + " " + briefOf(thrown[first]) + " " + briefOf(thrown[later]);
                    two++;
                    Due.is(told + " was seen", Due.orders().contains(told), !NEVER.contains(brief));
                }
            }
        }
        Due.is("each two that were seen, or are never so, are of the face", Due.orders().size() + NEVER.size(), two);
    }

    private static String briefOf(Class<?> thrown) {
        return thrown == X ? "X" : thrown == A ? "A" : thrown == S ? "S" : thrown == U ? "U" : "N";
    }
}
