import java.util.NoSuchElementException;

/** Promises 17 to 24: paths, work, passes, snaps, mending, widths. */
public final class PathsTest {
    public static void main(String[] args) {
        paths();
        pathsAreWhole();
        work();
        workNeedsAll();
        passes();
        snapByEachStitch();
        snapRefused();
        mend();
        mendNarrow();
        mendTwiceBeside();
        mendLacksBeads();
        snapReachesTwo();
        crochetedSnapsByItsPath();
        widthsAndLean();
        Due.end();
    }

    /** Kinds 0 to 3 with stock, the holes being 2 to 5 wide, and thread. */
    static Beadslant rich() {
        Beadslant x = new Beadslant();
        for (int kind = 0; kind < 4; kind++) {
            x.addKind(kind, 8 + kind, 2 + kind, 10 * kind + 1);
            x.buy(kind, 500);
        }
        x.thread(9999);
        return x;
    }

    private static void pathIs(char stitch, int columns, int rows, int... want) {
        Beadslant x = new Beadslant();
        x.addCloth(stitch, columns, rows);
        String of = " of " + stitch + " " + columns + " " + rows;
        Due.is("pathLength" + of, x.pathLength(0), want.length);
        for (int place = 0; place < want.length; place++) {
            Due.is("passAt " + place + of, x.passAt(0, place), want[place]);
        }
        for (int place : new int[] {-1, want.length, Integer.MAX_VALUE, Integer.MIN_VALUE}) {
            Due.fails(x, "passAt " + place + of, NoSuchElementException.class, () -> x.passAt(0, place));
        }
        Due.fails(x, "passAt(1, -1)", IndexOutOfBoundsException.class, () -> x.passAt(1, -1));
        Due.fails(x, "pathLength(1)", IndexOutOfBoundsException.class, () -> x.pathLength(1));
        Due.fails(x, "pathLength(-1)", IndexOutOfBoundsException.class, () -> x.pathLength(-1));
    }

    private static void paths() {
        pathIs('l', 3, 2, 0, 1, 2, 2, 1, 0, 3, 4, 5, 5, 4, 3);
        pathIs('b', 3, 3, 0, 0, 1, 1, 2, 2, 5, 5, 4, 4, 3, 3, 6, 6, 7, 7, 8, 8);
        pathIs('p', 2, 2, 0, 1, 0, 2, 1, 3, 2);
        pathIs('p', 3, 2, 0, 2, 1, 0, 3, 1, 5, 4, 3);
        pathIs('p', 4, 2, 0, 2, 3, 2, 1, 0, 4, 1, 6, 3, 7, 6, 5, 4);
        pathIs('p', 5, 1, 0, 2, 4, 3, 2, 1, 0);
    }

    private static void pathsAreWhole() {
        for (char stitch : "lpb".toCharArray()) {
            Beadslant x = new Beadslant();
            x.addCloth(stitch, 12, 12);
            int length = x.pathLength(0);
            Due.is("pathLength of 12 by 12 " + stitch, length, stitch == 'p' ? 288 - 6 : 288);
            int[] times = new int[144];
            for (int place = 0; place < length; place++) {
                times[x.passAt(0, place)]++;
            }
            for (int cell = 0; cell < 144; cell++) {
                boolean once = stitch == 'p' && cell / 12 == 11 && cell % 2 == 1;
                Due.is("times through " + cell + " of " + stitch, times[cell], once ? 1 : 2);
            }
        }
    }

    private static void work() {
        Beadslant x = rich();
        ClothsTest.newCloth(x, 'l', "01", "23");
        ClothsTest.newCloth(x, 'p', "012", "321");
        Due.is("work(0)", x.work(0), 9999 - 2 * (8 + 9 + 10 + 11));
        Due.is("state(0)", x.state(0), 'w');
        Due.is("state(1)", x.state(1), 'd');
        Due.is("stock(0)", x.stock(0), 499);
        Due.is("account('c')", x.account('c'), 4);
        Due.is("account('s')", x.account('s'), 1996);
        Due.is("work(1)", x.work(1), 9923 - 2 * (8 + 9) - 10 - 2 * 11 - 10 - 9);
        Due.is("money()", x.money(), -500 * (1 + 11 + 21 + 31));
        Due.is("isSound()", x.isSound(), true);
        Due.fails(x, "work(0) of a worked cloth", UnsupportedOperationException.class, () -> x.work(0));
        Due.fails(x, "work(2)", IndexOutOfBoundsException.class, () -> x.work(2));
        Due.fails(x, "work(-1)", IndexOutOfBoundsException.class, () -> x.work(-1));
    }

    private static void workNeedsAll() {
        Beadslant x = new Beadslant();
        x.addKind(0, 8, 2, 1);
        x.addKind(0, 9, 2, 1);
        ClothsTest.newCloth(x, 'b', "00", "1.");
        x.buy(0, 9);
        x.buy(1, 1);
        x.thread(68);
        Due.fails(x, "work with an empty cell", UnsupportedOperationException.class, () -> x.work(0));
        x.draw(0, 1, 1, 1);
        Due.fails(x, "work without beads", UnsupportedOperationException.class, () -> x.work(0));
        x.buy(1, 1);
        x.string(1);
        Due.fails(x, "work with beads on the string", UnsupportedOperationException.class, () -> x.work(0));
        x.buy(1, 1);
        for (int bead = 0; bead < 8; bead++) {
            x.string(0);
        }
        Due.fails(x, "work without beads of the first kind", UnsupportedOperationException.class, () -> x.work(0));
        x.buy(0, 9);
        x.addCloth('b', 2, 2);
        ClothsTest.drawRows(x, 1, "00", "11");
        Due.is("work with thread just so long", x.work(0), 0);
        x.buy(1, 9);
        x.thread(67);
        Due.fails(x, "work without thread", UnsupportedOperationException.class, () -> x.work(1));
        x.thread(1);
        Due.is("work with thread", x.work(1), 0);
    }

    private static void passes() {
        Beadslant x = rich();
        ClothsTest.newCloth(x, 'p', "333", "333");
        Due.fails(x, "passes of a drawn cloth", UnsupportedOperationException.class, () -> x.passes(0, 0, 0));
        Due.fails(x, "passes of a drawn cloth, no place", IndexOutOfBoundsException.class, () -> x.passes(0, 0, 3));
        x.work(0);
        int[] want = {2, 2, 1, 2, 1, 1};
        for (int cell = 0; cell < 6; cell++) {
            Due.is("passes of " + cell, x.passes(0, cell / 3, cell % 3), want[cell]);
        }
        int[][] wrong = {{1, 0, 0}, {-1, 0, 0}, {0, 2, 0}, {0, -1, 0}, {0, 0, 3}, {0, 0, -1}};
        for (int[] w : wrong) {
            Due.fails(x, "passes(" + w[0] + ", " + w[1] + ", " + w[2] + ")", IndexOutOfBoundsException.class,
                    () -> x.passes(w[0], w[1], w[2]));
        }
        x.sell(0);
        Due.is("passes of a sold cloth", x.passes(0, 0, 2), 1);
    }

    private static void snapByEachStitch() {
        Beadslant x = rich();
        ClothsTest.newCloth(x, 'l', "0123", "0123");
        ClothsTest.newCloth(x, 'b', "0123", "0123");
        ClothsTest.newCloth(x, 'p', "0123", "0123");
        for (int cloth = 0; cloth < 3; cloth++) {
            x.work(cloth);
        }
        Due.is("snap(0, 0), loom", x.snap(0, 0), 0);
        Due.is("state(0), nothing falling", x.state(0), 'w');
        Due.is("snap(0, 1), loom", x.snap(0, 1), 0);
        Due.is("snap(0, 3), loom", x.snap(0, 3), 2);
        ClothsTest.looks(x, 0, 4, 2, "01../0123");
        Due.is("state(0)", x.state(0), 'g');
        Due.is("passes of a gap", x.passes(0, 0, 2), 0);
        Due.is("passes beside a gap", x.passes(0, 0, 1), 2);
        Due.is("account('l')", x.account('l'), 2);
        Due.is("account('c')", x.account('c'), 22);
        Due.is("account('s')", x.account('s'), 2000 - 24);
        Due.is("snap(1, 4), brick", x.snap(1, 4), 2);
        ClothsTest.looks(x, 1, 4, 2, "0..3/0123");
        // The path is 0 2 3 2 1 0 4 1 6 3 7 6 5 4: of the cells near place 3 only 2 is passed nowhere else.
        Due.is("snap(2, 3), peyote", x.snap(2, 3), 1);
        ClothsTest.looks(x, 2, 4, 2, "01.3/0123");
        Due.is("isSound()", x.isSound(), true);
    }

    private static void snapRefused() {
        Beadslant x = rich();
        ClothsTest.newCloth(x, 'b', "00", "00");
        Due.fails(x, "snap of a drawn cloth", UnsupportedOperationException.class, () -> x.snap(0, 0));
        Due.fails(x, "snap of a drawn cloth, no place", NoSuchElementException.class, () -> x.snap(0, 8));
        x.work(0);
        Due.fails(x, "snap(0, -1)", NoSuchElementException.class, () -> x.snap(0, -1));
        Due.fails(x, "snap(0, 8)", NoSuchElementException.class, () -> x.snap(0, 8));
        Due.fails(x, "snap(0, MIN)", NoSuchElementException.class, () -> x.snap(0, Integer.MIN_VALUE));
        Due.fails(x, "snap(1, -1)", IndexOutOfBoundsException.class, () -> x.snap(1, -1));
        Due.is("snap(0, 7)", x.snap(0, 7), 1);
        Due.fails(x, "snap with gaps", UnsupportedOperationException.class, () -> x.snap(0, 0));
        Due.fails(x, "snap with gaps, no place", NoSuchElementException.class, () -> x.snap(0, 8));
        ClothsTest.newCloth(x, 'b', "00", "00");
        x.work(1);
        x.sell(1);
        Due.fails(x, "snap of a sold cloth", UnsupportedOperationException.class, () -> x.snap(1, 0));
    }

    private static void mend() {
        Beadslant x = rich();
        ClothsTest.newCloth(x, 'l', "3333", "3333");
        Due.fails(x, "mend of a drawn cloth", UnsupportedOperationException.class, () -> x.mend(0));
        x.work(0);
        Due.fails(x, "mend of a worked cloth", UnsupportedOperationException.class, () -> x.mend(0));
        int thread = x.thread(0);
        Due.is("snap(0, 3)", x.snap(0, 3), 2);
        Due.is("mend(0)", x.mend(0), 2);
        Due.is("state(0)", x.state(0), 'w');
        ClothsTest.looks(x, 0, 4, 2, "3333/3333");
        int[] want = {2, 3, 2, 2, 2, 2, 3, 3};
        for (int cell = 0; cell < 8; cell++) {
            Due.is("passes of " + cell, x.passes(0, cell / 4, cell % 4), want[cell]);
        }
        Due.is("stock(3)", x.stock(3), 490);
        Due.is("account('c')", x.account('c'), 8);
        Due.is("account('l')", x.account('l'), 2);
        Due.is("thread(0)", x.thread(0), thread);
        Due.is("pathLength(0)", x.pathLength(0), 16);
        Due.is("snap(0, 3) again, the path staying", x.snap(0, 3), 2);
        Due.is("mend(0) again", x.mend(0), 2);
        Due.is("passes(0, 0, 1)", x.passes(0, 0, 1), 4);
        Due.is("snap(0, 12), elsewhere", x.snap(0, 12), 2);
        Due.is("mend(0) of the new gaps alone", x.mend(0), 2);
        int[] then = {2, 4, 3, 3, 2, 3, 2, 2};
        for (int cell = 0; cell < 8; cell++) {
            Due.is("passes then of " + cell, x.passes(0, cell / 4, cell % 4), then[cell]);
        }
        Due.is("isSound()", x.isSound(), true);
        Due.fails(x, "mend(1)", IndexOutOfBoundsException.class, () -> x.mend(1));
        Due.fails(x, "mend(-1)", IndexOutOfBoundsException.class, () -> x.mend(-1));
    }

    private static void mendNarrow() {
        Beadslant x = rich();
        ClothsTest.newCloth(x, 'l', "3133", "3333");
        x.work(0);
        x.snap(0, 3);
        Due.is("mend(0), the hole being 3 wide", x.mend(0), 2);
        Due.is("passes(0, 0, 1)", x.passes(0, 0, 1), 3);
        x.snap(0, 3);
        Due.fails(x, "mend with a hole too narrow", UnsupportedOperationException.class, () -> x.mend(0));
        Due.is("state(0)", x.state(0), 'g');
        ClothsTest.looks(x, 0, 4, 2, "31../3333");
    }

    /** A bead that has two gaps beside it is passed twice more. */
    private static void mendTwiceBeside() {
        Beadslant x = rich();
        ClothsTest.newCloth(x, 'p', "3333", "3333");
        x.work(0);
        Due.is("snap(0, 11)", x.snap(0, 11), 2);
        ClothsTest.looks(x, 0, 4, 2, "3333/3.3.");
        Due.is("mend(0)", x.mend(0), 2);
        int[] want = {2, 2 + 1, 2, 2 + 1, 2 + 1, 2, 2 + 2, 2};
        for (int cell = 0; cell < 8; cell++) {
            Due.is("passes by peyote of " + cell, x.passes(0, cell / 4, cell % 4), want[cell]);
        }
        ClothsTest.newCloth(x, 'b', "333", "333");
        x.work(1);
        Due.is("snap(1, 6)", x.snap(1, 6), 2);
        ClothsTest.looks(x, 1, 3, 2, "33./33.");
        Due.is("mend(1)", x.mend(1), 2);
        int[] brick = {2, 2 + 1, 2, 2, 2 + 2, 2};
        for (int cell = 0; cell < 6; cell++) {
            Due.is("passes by brick of " + cell, x.passes(1, cell / 3, cell % 3), brick[cell]);
        }
        ClothsTest.newCloth(x, 'b', "33");
        x.work(2);
        Due.is("snap(2, 3)", x.snap(2, 3), 1);
        Due.is("mend(2)", x.mend(2), 1);
        Due.is("passes of the first cell", x.passes(2, 0, 0), 3);
        ClothsTest.newCloth(x, 'p', "33", "33");
        x.work(3);
        Due.is("snap(3, 2)", x.snap(3, 2), 2);
        Due.is("mend(3)", x.mend(3), 2);
        int[] across = {2, 2, 2 + 2, 1 + 1};
        for (int cell = 0; cell < 4; cell++) {
            Due.is("passes across of " + cell, x.passes(3, cell / 2, cell % 2), across[cell]);
        }
    }

    private static void mendLacksBeads() {
        Beadslant x = new Beadslant();
        x.addKind(0, 8, 9, 1);
        x.addKind(1, 8, 9, 1);
        x.buy(0, 4);
        x.buy(1, 3);
        x.thread(999);
        ClothsTest.newCloth(x, 'l', "010");
        x.work(0);
        Due.is("snap(0, 2)", x.snap(0, 2), 2);
        x.string(0);
        x.string(0);
        Due.fails(x, "mend with one of two beads", UnsupportedOperationException.class, () -> x.mend(0));
        x.buy(0, 1);
        Due.is("mend(0)", x.mend(0), 2);
        Due.is("stock(0)", x.stock(0), 0);
        Due.is("stock(1)", x.stock(1), 1);
        ClothsTest.looks(x, 0, 3, 1, "010");
        Beadslant y = new Beadslant();
        y.addKind(0, 8, 2, 1);
        y.addKind(0, 8, 3, 1);
        y.buy(0, 1);
        y.buy(1, 2);
        y.thread(999);
        ClothsTest.newCloth(y, 'b', "011");
        y.work(0);
        y.snap(0, 0);
        Due.fails(y, "mend of the first cell without beads", UnsupportedOperationException.class, () -> y.mend(0));
        y.buy(0, 1);
        Due.is("mend(0)", y.mend(0), 1);
        Due.is("passes(0, 0, 1)", y.passes(0, 0, 1), 3);
        y.buy(1, 2);
        Due.is("snap(0, 4)", y.snap(0, 4), 2);
        y.buy(1, 2);
        Due.fails(y, "mend beside a first cell too narrow", UnsupportedOperationException.class, () -> y.mend(0));
    }

    /** The bead that comes last in the reach of a snap, and the one that comes first, at the path's ends. */
    private static void snapReachesTwo() {
        for (int place = 0; place < 4; place++) {
            Beadslant x = rich();
            ClothsTest.newCloth(x, 'p', "012");
            x.work(0);
            int[] want = {2, 3, 3, 2};
            Due.is("snap(0, " + place + ")", x.snap(0, place), want[place]);
        }
        for (int place = 0; place < 8; place++) {
            Beadslant x = rich();
            ClothsTest.newCloth(x, 'b', "0123");
            x.work(0);
            int[] want = {1, 2, 2, 2, 2, 2, 2, 1};
            Due.is("snap(0, " + place + "), brick", x.snap(0, place), want[place]);
        }
    }

    /** By peyote a crocheted bead counts as passed twice, but the path goes through some of them once. */
    private static void crochetedSnapsByItsPath() {
        Beadslant x = rich();
        ClothsTest.newCloth(x, 'p', "012");
        x.string(2);
        x.string(1);
        x.string(0);
        x.crochet(0);
        Due.is("passes(0, 0, 2)", x.passes(0, 0, 2), 2);
        Due.is("pathLength(0)", x.pathLength(0), 4);
        Due.is("snap(0, 3)", x.snap(0, 3), 2);
        ClothsTest.looks(x, 0, 3, 1, "0..");
    }

    private static void widthsAndLean() {
        Beadslant x = rich();
        ClothsTest.newCloth(x, 'b', "01", "33", "2.");
        Due.is("rowWidth(0, 0)", x.rowWidth(0, 0), 17);
        Due.is("rowWidth(0, 1)", x.rowWidth(0, 1), 22);
        Due.is("rowWidth(0, 2)", x.rowWidth(0, 2), 10);
        Due.is("lean(0)", x.lean(0), 12);
        x.draw(0, 2, 0, -1);
        Due.is("rowWidth(0, 2)", x.rowWidth(0, 2), 0);
        Due.is("lean(0)", x.lean(0), 22);
        ClothsTest.drawRows(x, 0, "33", "30", "31");
        Due.is("lean(0)", x.lean(0), 3);
        x.work(0);
        Due.is("lean(0) of a worked cloth", x.lean(0), 3);
        x.snap(0, 0);
        Due.is("rowWidth(0, 0) with a gap", x.rowWidth(0, 0), 11);
        Due.is("lean(0) with a gap", x.lean(0), 9);
        x.addCloth('l', 12, 1);
        Due.is("lean(1) of one row", x.lean(1), 0);
        int[][] wrong = {{2, 0}, {-1, 0}, {0, 3}, {0, -1}, {1, 1}, {0, Integer.MIN_VALUE}};
        for (int[] w : wrong) {
            Due.fails(x, "rowWidth(" + w[0] + ", " + w[1] + ")", IndexOutOfBoundsException.class,
                    () -> x.rowWidth(w[0], w[1]));
        }
        Due.fails(x, "lean(2)", IndexOutOfBoundsException.class, () -> x.lean(2));
        Due.fails(x, "lean(-1)", IndexOutOfBoundsException.class, () -> x.lean(-1));
    }
}
