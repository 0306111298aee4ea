import java.util.NoSuchElementException;

/** Promises 34 to 41: words, runs, copies and guesses. */
public final class WordsTest {
    public static void main(String[] args) {
        words();
        runs();
        runsEndAtGaps();
        runWord();
        runsRefused();
        shared();
        sharedGaps();
        guess();
        Due.end();
    }

    private static void words() {
        Beadslant x = new Beadslant();
        for (int region = 0; region < 3; region++) {
            Due.is("isClear of a new object", x.isClear(region), true);
        }
        Due.is("setWord(2, 7, 7)", x.setWord(2, 7, 7), 7);
        Due.is("setWord(0, 3, 9)", x.setWord(0, 3, 9), 3);
        Due.is("setWord(1, 3, 0)", x.setWord(1, 3, 0), 3);
        Due.is("isClear(0)", x.isClear(0), true);
        Due.is("isClear(1)", x.isClear(1), false);
        Due.is("isClear(2)", x.isClear(2), true);
        Due.is("setWord(1, 0, 8)", x.setWord(1, 0, 8), 0);
        Due.is("isClear(1)", x.isClear(1), true);
        Due.is("setWord(0, 7, 9)", x.setWord(0, 7, 9), 7);
        Due.is("isClear(0)", x.isClear(0), false);
        Due.is("setWord(0, 7, 3)", x.setWord(0, 7, 3), 9);
        Due.is("isClear(0)", x.isClear(0), true);
        int[][] wrong = {{-1, 0, 0}, {3, 0, 0}, {0, -1, 0}, {0, 8, 0}, {0, 0, -1}, {0, 0, 10},
            {Integer.MAX_VALUE, Integer.MIN_VALUE, 0}};
        for (int[] w : wrong) {
            Due.fails(x, "setWord(" + w[0] + ", " + w[1] + ", " + w[2] + ")", IllegalArgumentException.class,
                    () -> x.setWord(w[0], w[1], w[2]));
        }
        Due.fails(x, "isClear(-1)", IllegalArgumentException.class, () -> x.isClear(-1));
        Due.fails(x, "isClear(3)", IllegalArgumentException.class, () -> x.isClear(3));
    }

    private static void runIs(Beadslant x, int row, int run, boolean isLeft, int length, int colour) {
        String of = "(0, " + row + ", " + run + ", " + isLeft + ")";
        Due.is("runLength" + of, x.runLength(0, row, run, isLeft), length);
        Due.is("runColour" + of, x.runColour(0, row, run, isLeft), colour);
    }

    private static void runs() {
        Beadslant x = ClothsTest.withKinds();
        ClothsTest.newCloth(x, 'l', "0011142", "...0.00", "0404040", ".......", "3333331");
        int[] many = {4, 2, 1, 0, 2};
        for (int row = 0; row < 5; row++) {
            Due.is("runs(0, " + row + ")", x.runs(0, row), many[row]);
        }
        runIs(x, 0, 0, false, 2, 0);
        runIs(x, 0, 1, false, 3, 1);
        runIs(x, 0, 2, false, 1, 0);
        runIs(x, 0, 3, false, 1, 2);
        runIs(x, 0, 0, true, 1, 2);
        runIs(x, 0, 1, true, 1, 0);
        runIs(x, 0, 2, true, 3, 1);
        runIs(x, 0, 3, true, 2, 0);
        runIs(x, 1, 0, false, 1, 0);
        runIs(x, 1, 1, false, 2, 0);
        runIs(x, 1, 0, true, 2, 0);
        runIs(x, 1, 1, true, 1, 0);
        runIs(x, 2, 0, false, 7, 0);
        runIs(x, 2, 0, true, 7, 0);
        runIs(x, 4, 0, false, 6, 3);
        runIs(x, 4, 1, true, 6, 3);
    }

    private static void runsEndAtGaps() {
        Beadslant x = PathsTest.rich();
        ClothsTest.newCloth(x, 'b', "00000");
        x.work(0);
        Due.is("snap(0, 4)", x.snap(0, 4), 2);
        ClothsTest.looks(x, 0, 5, 1, "0..00");
        Due.is("runs(0, 0) with gaps", x.runs(0, 0), 2);
        runIs(x, 0, 0, false, 1, 0);
        runIs(x, 0, 0, true, 2, 0);
    }

    private static void runWord() {
        Beadslant x = ClothsTest.withKinds();
        ClothsTest.newCloth(x, 'p', "0012", "3...");
        x.setWord(1, 1, 9);
        x.setWord(2, 2, 4);
        Due.is("runWord(0, 0, 0, 0)", x.runWord(0, 0, 0, 0), 0);
        Due.is("runWord(0, 0, 1, 0)", x.runWord(0, 0, 1, 0), 1);
        Due.is("runWord(0, 0, 1, 1)", x.runWord(0, 0, 1, 1), 9);
        Due.is("runWord(0, 0, 2, 2)", x.runWord(0, 0, 2, 2), 4);
        Due.is("runWord(0, 1, 0, 2)", x.runWord(0, 1, 0, 2), 3);
        for (int region : new int[] {-1, 3, Integer.MAX_VALUE}) {
            Due.fails(x, "runWord(0, 0, 9, " + region + ")", IllegalArgumentException.class,
                    () -> x.runWord(0, 0, 9, region));
        }
        for (int run : new int[] {-1, 3, Integer.MAX_VALUE, Integer.MIN_VALUE}) {
            Due.fails(x, "runWord(0, 0, " + run + ", 0)", NoSuchElementException.class,
                    () -> x.runWord(0, 0, run, 0));
        }
        Due.fails(x, "runWord(0, 2, 0, 3)", IndexOutOfBoundsException.class, () -> x.runWord(0, 2, 0, 3));
        Due.fails(x, "runWord(1, 0, 0, 3)", IndexOutOfBoundsException.class, () -> x.runWord(1, 0, 0, 3));
    }

    private static void runsRefused() {
        Beadslant x = ClothsTest.withKinds();
        ClothsTest.newCloth(x, 'l', "01", "..");
        int[][] wrong = {{1, 0}, {-1, 0}, {0, 2}, {0, -1}, {0, Integer.MAX_VALUE}};
        for (int[] w : wrong) {
            String of = "(" + w[0] + ", " + w[1] + ")";
            Due.fails(x, "runs" + of, IndexOutOfBoundsException.class, () -> x.runs(w[0], w[1]));
            Due.fails(x, "runLength" + of, IndexOutOfBoundsException.class, () -> x.runLength(w[0], w[1], 9, true));
            Due.fails(x, "runColour" + of, IndexOutOfBoundsException.class, () -> x.runColour(w[0], w[1], 9, true));
        }
        for (int run : new int[] {-1, 2, Integer.MAX_VALUE, Integer.MIN_VALUE}) {
            for (boolean isLeft : new boolean[] {false, true}) {
                String of = "(0, 0, " + run + ", " + isLeft + ")";
                Due.fails(x, "runLength" + of, NoSuchElementException.class, () -> x.runLength(0, 0, run, isLeft));
                Due.fails(x, "runColour" + of, NoSuchElementException.class, () -> x.runColour(0, 0, run, isLeft));
            }
        }
        Due.fails(x, "runLength of an empty row", NoSuchElementException.class, () -> x.runLength(0, 1, 0, false));
    }

    private static void shared() {
        Beadslant x = ClothsTest.withKinds();
        ClothsTest.newCloth(x, 'l', "012", "034");
        ClothsTest.newCloth(x, 'l', "412", ".30");
        ClothsTest.newCloth(x, 'l', "10.", "122");
        Due.is("shared(0, 1, 2)", x.shared(0, 1, 2), 4);
        Due.is("shared(1, 0, 2)", x.shared(1, 0, 2), 4);
        Due.is("shared(0, 0, 2) of the same one", x.shared(0, 0, 2), 5);
        Due.is("shared(0, 1, 0) of the original", x.shared(0, 1, 0), 0);
        Due.is("shared(0, 2, 1)", x.shared(0, 2, 1), 0);
        ClothsTest.newCloth(x, 'p', "012", "034");
        ClothsTest.newCloth(x, 'l', "01", "03", "..");
        ClothsTest.newCloth(x, 'l', "012");
        for (int other = 3; other < 6; other++) {
            int unlike = other;
            Due.fails(x, "shared(0, 1, " + other + ")", UnsupportedOperationException.class,
                    () -> x.shared(0, 1, unlike));
            Due.fails(x, "shared(0, " + other + ", 1)", UnsupportedOperationException.class,
                    () -> x.shared(0, unlike, 1));
            Due.fails(x, "shared(" + other + ", 0, 1)", UnsupportedOperationException.class,
                    () -> x.shared(unlike, 0, 1));
        }
        int[][] wrong = {{6, 3, 0}, {3, 6, 0}, {3, 0, 6}, {-1, 0, 0}, {0, -1, 0}, {0, 0, -1}};
        for (int[] w : wrong) {
            Due.fails(x, "shared(" + w[0] + ", " + w[1] + ", " + w[2] + ")", IndexOutOfBoundsException.class,
                    () -> x.shared(w[0], w[1], w[2]));
        }
    }

    private static void sharedGaps() {
        Beadslant x = PathsTest.rich();
        for (int cloth = 0; cloth < 3; cloth++) {
            ClothsTest.newCloth(x, 'b', cloth < 2 ? "111" : "222");
            x.work(cloth);
        }
        Due.is("shared(0, 1, 2) of worked cloths", x.shared(0, 1, 2), 3);
        x.snap(0, 0);
        Due.is("shared(0, 1, 2) with a gap", x.shared(0, 1, 2), 2);
        x.snap(2, 5);
        Due.is("shared(0, 1, 2) with a gap in the original", x.shared(0, 1, 2), 1);
        x.sell(1);
        Due.is("shared(0, 1, 2) of a sold cloth", x.shared(0, 1, 2), 1);
    }

    private static void guess() {
        Beadslant x = ClothsTest.withKinds();
        ClothsTest.newCloth(x, 'l', "3102102....3", "............");
        Due.is("guess(0, 0, 0, 1)", x.guess(0, 0, 0, 1), 0);
        Due.is("guess(0, 0, 1, 1), the lowest of like ones", x.guess(0, 0, 1, 1), 0);
        Due.is("guess(0, 0, 1, 3), itself aside", x.guess(0, 0, 1, 3), 1);
        Due.is("guess(0, 0, 4, 3)", x.guess(0, 0, 4, 3), 1);
        Due.is("guess(0, 0, 3, 3)", x.guess(0, 0, 3, 3), 2);
        Due.is("guess(0, 0, 9, 3)", x.guess(0, 0, 9, 3), 2);
        Due.is("guess(0, 0, 0, 11)", x.guess(0, 0, 0, 11), 3);
        Due.is("guess(0, 0, 11, 11)", x.guess(0, 0, 11, 11), 3);
        x.draw(0, 0, 7, 4);
        x.draw(0, 0, 8, 4);
        Due.is("guess(0, 0, 1, 1) by kinds of one colour", x.guess(0, 0, 1, 1), 0);
        x.addKind(7, 8, 2, 0);
        x.draw(0, 1, 3, 5);
        Due.is("guess(0, 1, 7, 2) of the last colour", x.guess(0, 1, 7, 2), 7);
        x.draw(0, 1, 3, -1);
        Due.fails(x, "guess(0, 0, 0, 12)", NoSuchElementException.class, () -> x.guess(0, 0, 0, 12));
        Due.fails(x, "guess(0, 0, 3, 7)", NoSuchElementException.class, () -> x.guess(0, 0, 3, 7));
        Due.fails(x, "guess(0, 1, 0, 1) of an empty row", NoSuchElementException.class, () -> x.guess(0, 1, 0, 1));
        for (int repeat : new int[] {0, 13, -1, Integer.MIN_VALUE}) {
            Due.fails(x, "guess(0, 1, 0, " + repeat + ")", IllegalArgumentException.class,
                    () -> x.guess(0, 1, 0, repeat));
        }
        int[][] wrong = {{1, 0, 0}, {-1, 0, 0}, {0, 2, 0}, {0, -1, 0}, {0, 0, 12}, {0, 0, -1}};
        for (int[] w : wrong) {
            Due.fails(x, "guess(" + w[0] + ", " + w[1] + ", " + w[2] + ", 0)", IndexOutOfBoundsException.class,
                    () -> x.guess(w[0], w[1], w[2], 0));
        }
    }
}
