import java.util.NoSuchElementException;

/** Each sentence of promises 34 to 41 that names a bound. */
final class BoundsOfWords {
    private static final Class<IndexOutOfBoundsException> X = IndexOutOfBoundsException.class;
    private static final Class<IllegalArgumentException> A = IllegalArgumentException.class;
    private static final Class<UnsupportedOperationException> U = UnsupportedOperationException.class;
    private static final Class<NoSuchElementException> N = NoSuchElementException.class;

    private BoundsOfWords() {
    }

    static void all() {
        setWord();
        isClear();
        runsArguments();
        runsCounted();
        runWord();
        sharedRefused();
        sharedCounted();
        guessRefused();
        guessed();
    }

    private static void setWord() {
        Due.sentence(34, "a region is 0 to 2", () -> {
            Beadslant x = new Beadslant();
            Due.outside(x, "setWord(#, 0, 0)", 0, 2, A, v -> x.setWord(v, 0, 0));
            Due.is("setWord(0, 0, 1)", x.setWord(0, 0, 1), 0);
            Due.is("setWord(2, 0, 1)", x.setWord(2, 0, 1), 0);
        });
        Due.sentence(34, "a colour is 0 to 7", () -> {
            Beadslant x = new Beadslant();
            Due.outside(x, "setWord(0, #, 0)", 0, 7, A, v -> x.setWord(0, v, 0));
            Due.is("setWord(0, 0, 1)", x.setWord(0, 0, 1), 0);
            Due.is("setWord(0, 7, 1)", x.setWord(0, 7, 1), 7);
            Due.fails(x, "setWord(1, -1, 0), the colour before being there", A, () -> x.setWord(1, -1, 0));
        });
        Due.sentence(34, "a word is 0 to 9", () -> {
            Beadslant x = new Beadslant();
            Due.outside(x, "setWord(0, 5, #)", 0, 9, A, v -> x.setWord(0, 5, v));
            Due.is("setWord(0, 5, 0)", x.setWord(0, 5, 0), 5);
            Due.is("setWord(0, 5, 9)", x.setWord(0, 5, 9), 0);
            Due.is("setWord(0, 5, 5)", x.setWord(0, 5, 5), 9);
        });
        Due.sentence(34, "a colour's own number at first, in each region", () -> {
            Beadslant x = new Beadslant();
            for (int region = 0; region < 3; region++) {
                for (int colour = 0; colour < 8; colour++) {
                    Due.is("setWord", x.setWord(region, colour, 9), colour);
                }
            }
            for (int region = 0; region < 3; region++) {
                for (int colour = 0; colour < 8; colour++) {
                    Due.is("setWord again", x.setWord(region, colour, 9 - region), 9);
                }
            }
        });
    }

    private static void isClear() {
        Due.sentence(35, "a region is 0 to 2", () -> {
            Beadslant x = new Beadslant();
            Due.outside(x, "isClear(#)", 0, 2, A, v -> x.isClear(v));
            Due.is("isClear(0)", x.isClear(0), true);
            Due.is("isClear(2)", x.isClear(2), true);
        });
        Due.sentence(35, "no two colours, of each two", () -> {
            for (int one = 0; one < 8; one++) {
                for (int other = 0; other < 8; other++) {
                    if (one != other) {
                        Beadslant x = new Beadslant();
                        x.setWord(1, one, other);
                        Due.is("isClear(1) by " + one + " and " + other, x.isClear(1), false);
                        Due.is("isClear(0)", x.isClear(0), true);
                        Due.is("isClear(2)", x.isClear(2), true);
                        x.setWord(1, other, 9);
                        Due.is("isClear(1) again", x.isClear(1), true);
                    }
                }
            }
        });
        Due.sentence(35, "the words 8 and 9 are no colour's at first", () -> {
            for (int colour = 0; colour < 8; colour++) {
                Beadslant x = new Beadslant();
                x.setWord(0, colour, 8);
                Due.is("isClear(0) with a word 8", x.isClear(0), true);
                x.setWord(0, 7 - colour, 9);
                Due.is("isClear(0) with a word 9", x.isClear(0), true);
            }
        });
        Due.sentence(35, "all colours have one word", () -> {
            Beadslant x = new Beadslant();
            for (int colour = 0; colour < 8; colour++) {
                x.setWord(2, colour, 9);
            }
            Due.is("isClear(2)", x.isClear(2), false);
        });
    }

    private static void runsArguments() {
        Due.sentence(36, "no such cloth", () -> {
            Beadslant x = new Beadslant();
            Due.fails(x, "runs(0, 0) without cloths", X, () -> x.runs(0, 0));
            x.addCloth('l', 2, 1);
            Due.outside(x, "runs(#, 0)", 0, 0, X, v -> x.runs(v, 0));
        });
        Due.sentence(36, "no such row", () -> {
            Beadslant x = new Beadslant();
            x.addCloth('l', 12, 1);
            x.addCloth('l', 2, 12);
            Due.outside(x, "runs(0, #)", 0, 0, X, v -> x.runs(0, v));
            Due.outside(x, "runs(1, #)", 0, 11, X, v -> x.runs(1, v));
            Due.is("runs(1, 11)", x.runs(1, 11), 0);
        });
        Due.sentence(37, "no such cloth", () -> {
            Beadslant x = new Beadslant();
            Due.fails(x, "runLength(0, 0, 0, false) without cloths", X, () -> x.runLength(0, 0, 0, false));
            ClothsTest.newCloth(x, 'l', "..");
            Due.outside(x, "runLength(#, 0, 0, true)", 0, 0, X, v -> x.runLength(v, 0, 0, true));
        });
        Due.sentence(37, "no such row", () -> {
            Beadslant x = Bench.stocked();
            Bench.plain(x, 'l', 12, 2, 0);
            Due.outside(x, "runLength(0, #, 0, false)", 0, 1, X, v -> x.runLength(0, v, 0, false));
            Due.outside(x, "runLength(0, #, 0, true)", 0, 1, X, v -> x.runLength(0, v, 0, true));
            Due.is("runLength(0, 1, 0, false)", x.runLength(0, 1, 0, false), 12);
        });
        Due.sentence(37, "no such run", () -> {
            Beadslant x = Bench.stocked();
            ClothsTest.newCloth(x, 'l', "0011", "....", "1111");
            for (boolean isLeft : new boolean[] {false, true}) {
                String end = ", " + isLeft + ")";
                Due.outside(x, "runLength(0, 0, #" + end, 0, 1, N, v -> x.runLength(0, 0, v, isLeft));
                Due.outside(x, "runLength(0, 1, #" + end, 0, -1, N, v -> x.runLength(0, 1, v, isLeft));
                Due.outside(x, "runLength(0, 2, #" + end, 0, 0, N, v -> x.runLength(0, 2, v, isLeft));
            }
        });
        Due.sentence(38, "no such cloth", () -> {
            Beadslant x = new Beadslant();
            Due.fails(x, "runColour(0, 0, 0, false) without cloths", X, () -> x.runColour(0, 0, 0, false));
            ClothsTest.newCloth(x, 'l', "..");
            Due.outside(x, "runColour(#, 0, 0, true)", 0, 0, X, v -> x.runColour(v, 0, 0, true));
        });
        Due.sentence(38, "no such row", () -> {
            Beadslant x = Bench.stocked();
            Bench.plain(x, 'l', 12, 2, 3);
            Due.outside(x, "runColour(0, #, 0, false)", 0, 1, X, v -> x.runColour(0, v, 0, false));
            Due.outside(x, "runColour(0, #, 0, true)", 0, 1, X, v -> x.runColour(0, v, 0, true));
            Due.is("runColour(0, 1, 0, true)", x.runColour(0, 1, 0, true), 3);
        });
        Due.sentence(38, "no such run", () -> {
            Beadslant x = Bench.stocked();
            ClothsTest.newCloth(x, 'l', "0011", "....", "1111");
            for (boolean isLeft : new boolean[] {false, true}) {
                String end = ", " + isLeft + ")";
                Due.outside(x, "runColour(0, 0, #" + end, 0, 1, N, v -> x.runColour(0, 0, v, isLeft));
                Due.outside(x, "runColour(0, 1, #" + end, 0, -1, N, v -> x.runColour(0, 1, v, isLeft));
                Due.outside(x, "runColour(0, 2, #" + end, 0, 0, N, v -> x.runColour(0, 2, v, isLeft));
            }
        });
    }

    /** The runs of a row, told as its colour and length each, as right hands read them. */
    private static void runsAre(int promise, String row, String... want) {
        Beadslant x = ClothsTest.withKinds();
        ClothsTest.newCloth(x, 'b', row);
        Due.is("runs(0, 0) of " + row, x.runs(0, 0), want.length);
        for (int run = 0; run < want.length; run++) {
            int left = want.length - 1 - run;
            int colour = want[run].charAt(0) - '0';
            int length = Integer.parseInt(want[run].substring(2));
            if (promise != 38) {
                Due.is("runLength(0, 0, " + run + ", false) of " + row, x.runLength(0, 0, run, false), length);
                Due.is("runLength(0, 0, " + left + ", true) of " + row, x.runLength(0, 0, left, true), length);
            }
            if (promise != 37) {
                Due.is("runColour(0, 0, " + run + ", false) of " + row, x.runColour(0, 0, run, false), colour);
                Due.is("runColour(0, 0, " + left + ", true) of " + row, x.runColour(0, 0, left, true), colour);
            }
        }
    }

    private static void runsCounted() {
        for (int promise = 36; promise <= 38; promise++) {
            int p = promise;
            Due.sentence(p, "from no run to twelve", () -> {
                runsAre(p, "............");
                runsAre(p, "..");
                runsAre(p, "00", "0x2");
                runsAre(p, "01", "0x1", "1x1");
                runsAre(p, "333333333333", "3x12");
                runsAre(p, "010101010123", "0x1", "1x1", "0x1", "1x1", "0x1", "1x1", "0x1", "1x1", "0x1", "1x1",
                        "2x1", "3x1");
            });
            Due.sentence(p, "empty cells end runs, and belong to none", () -> {
                runsAre(p, ".0", "0x1");
                runsAre(p, "0.", "0x1");
                runsAre(p, "00.000", "0x2", "0x3");
                runsAre(p, ".00..11.", "0x2", "1x2");
                runsAre(p, ".1.1.1.1.1.1", "1x1", "1x1", "1x1", "1x1", "1x1", "1x1");
            });
            Due.sentence(p, "not fewer than could be, at both ends", () -> {
                runsAre(p, "000011111122", "0x4", "1x6", "2x2");
                runsAre(p, "011111111112", "0x1", "1x10", "2x1");
            });
            Due.sentence(p, "of one colour, of several kinds", () -> runsAre(p, "0440140", "0x4", "1x1", "0x2"));
        }
        Due.sentence(36, "a run does not go on in the next row", () -> {
            Beadslant x = Bench.stocked();
            ClothsTest.newCloth(x, 'l', "01", "11");
            Due.is("runs(0, 0)", x.runs(0, 0), 2);
            Due.is("runs(0, 1)", x.runs(0, 1), 1);
            Due.is("runLength(0, 0, 1, false)", x.runLength(0, 0, 1, false), 1);
            Due.is("runLength(0, 1, 0, true)", x.runLength(0, 1, 0, true), 2);
        });
        Due.sentence(36, "a gap ends runs too", () -> {
            Beadslant x = Bench.stocked();
            Bench.plain(x, 'b', 5, 1, 0);
            x.work(0);
            Due.is("snap(0, 4)", x.snap(0, 4), 2);
            Due.is("runs(0, 0)", x.runs(0, 0), 2);
            Due.is("runLength(0, 0, 0, false)", x.runLength(0, 0, 0, false), 1);
            Due.is("runLength(0, 0, 1, false)", x.runLength(0, 0, 1, false), 2);
            Due.fails(x, "runColour(0, 0, 2, false)", N, () -> x.runColour(0, 0, 2, false));
        });
        Due.sentence(36, "a cloth is read in each state", () -> {
            Beadslant x = Bench.inEachState();
            int[] want = {3, 3, 2, 3};
            for (int cloth = 0; cloth < 4; cloth++) {
                Due.is("runs", x.runs(cloth, 0), want[cloth]);
            }
        });
    }

    private static void runWord() {
        Due.sentence(39, "no such cloth", () -> {
            Beadslant x = new Beadslant();
            Due.fails(x, "runWord(0, 0, 0, 0) without cloths", X, () -> x.runWord(0, 0, 0, 0));
            Beadslant y = Bench.inEachState();
            Due.outside(y, "runWord(#, 0, 0, 0)", 0, 3, X, v -> y.runWord(v, 0, 0, 0));
        });
        Due.sentence(39, "no such row", () -> {
            Beadslant x = Bench.stocked();
            Bench.plain(x, 'l', 12, 2, 3);
            Due.outside(x, "runWord(0, #, 0, 0)", 0, 1, X, v -> x.runWord(0, v, 0, 0));
            Due.is("runWord(0, 1, 0, 0)", x.runWord(0, 1, 0, 0), 3);
        });
        Due.sentence(39, "a region is 0 to 2", () -> {
            Beadslant x = Bench.stocked();
            Bench.plain(x, 'l', 2, 1, 3);
            Due.outside(x, "runWord(0, 0, 0, #)", 0, 2, A, v -> x.runWord(0, 0, 0, v));
            for (int region = 0; region < 3; region++) {
                x.setWord(region, 3, 7 + region);
            }
            for (int region = 0; region < 3; region++) {
                Due.is("runWord(0, 0, 0, " + region + ")", x.runWord(0, 0, 0, region), 7 + region);
            }
        });
        Due.sentence(39, "no such run", () -> {
            Beadslant x = Bench.stocked();
            ClothsTest.newCloth(x, 'l', "01", "..", "33");
            Due.outside(x, "runWord(0, 0, #, 0)", 0, 1, N, v -> x.runWord(0, 0, v, 0));
            Due.outside(x, "runWord(0, 1, #, 0)", 0, -1, N, v -> x.runWord(0, 1, v, 0));
            Due.outside(x, "runWord(0, 2, #, 0)", 0, 0, N, v -> x.runWord(0, 2, v, 0));
        });
        Due.sentence(39, "from the first column on, a colour's own number at first", () -> {
            Beadslant x = new Beadslant();
            for (int kind = 0; kind < 8; kind++) {
                x.addKind(7 - kind, 8, 2, 0);
            }
            ClothsTest.newCloth(x, 'l', "01234567");
            for (int run = 0; run < 8; run++) {
                Due.is("runWord(0, 0, " + run + ", 2)", x.runWord(0, 0, run, 2), 7 - run);
            }
        });
    }

    private static void sharedRefused() {
        Due.sentence(40, "no such cloth, for any", () -> {
            Beadslant x = new Beadslant();
            Due.fails(x, "shared(0, 0, 0) without cloths", X, () -> x.shared(0, 0, 0));
            x.addCloth('l', 2, 1);
            Due.outside(x, "shared(#, 0, 0)", 0, 0, X, v -> x.shared(v, 0, 0));
            Due.outside(x, "shared(0, #, 0)", 0, 0, X, v -> x.shared(0, v, 0));
            Due.outside(x, "shared(0, 0, #)", 0, 0, X, v -> x.shared(0, 0, v));
        });
        Due.sentence(40, "they are not of one stitch", () -> unlikeIs('p', 3, 2));
        Due.sentence(40, "they are not of one size, by columns", () -> unlikeIs('l', 4, 2));
        Due.sentence(40, "they are not of one size, by rows", () -> unlikeIs('l', 3, 3));
        Due.sentence(40, "they are not of one size, of as many cells", () -> unlikeIs('l', 2, 3));
    }

    /** Cloth 2 is unlike the cloths 0 and 1, which are looms of 3 by 2. */
    private static void unlikeIs(char stitch, int columns, int rows) {
        Beadslant x = new Beadslant();
        x.addCloth('l', 3, 2);
        x.addCloth('l', 3, 2);
        x.addCloth(stitch, columns, rows);
        Due.fails(x, "shared(2, 0, 1)", U, () -> x.shared(2, 0, 1));
        Due.fails(x, "shared(0, 2, 1)", U, () -> x.shared(0, 2, 1));
        Due.fails(x, "shared(0, 1, 2)", U, () -> x.shared(0, 1, 2));
        Due.fails(x, "shared(0, 2, 2)", U, () -> x.shared(0, 2, 2));
        Due.fails(x, "shared(2, 2, 0)", U, () -> x.shared(2, 2, 0));
        Due.is("shared(0, 1, 0)", x.shared(0, 1, 0), 0);
        Due.is("shared(2, 2, 2)", x.shared(2, 2, 2), 0);
    }

    private static void sharedCounted() {
        Due.sentence(40, "from none to all cells of the largest cloth", () -> {
            Beadslant x = Bench.stocked();
            Bench.plain(x, 'b', 12, 12, 0);
            Bench.plain(x, 'b', 12, 12, 0);
            Bench.plain(x, 'b', 12, 12, 1);
            Due.is("shared(0, 1, 2)", x.shared(0, 1, 2), 144);
            Due.is("shared(0, 2, 1)", x.shared(0, 2, 1), 0);
            x.draw(1, 11, 11, 1);
            Due.is("shared(0, 1, 2) without the last cell", x.shared(0, 1, 2), 143);
            x.draw(0, 0, 0, -1);
            Due.is("shared(0, 1, 2) without the first cell", x.shared(0, 1, 2), 142);
        });
        Due.sentence(40, "a cell that is empty in any of the three is no error", () -> {
            Beadslant x = Bench.stocked();
            ClothsTest.newCloth(x, 'l', "0.00..0");
            ClothsTest.newCloth(x, 'l', "00.0.0.");
            ClothsTest.newCloth(x, 'l', "111.1..");
            Due.is("shared(0, 1, 2)", x.shared(0, 1, 2), 1);
            ClothsTest.newCloth(x, 'l', ".......");
            Due.is("shared of empty cloths", x.shared(3, 3, 3), 0);
            Due.is("shared with an empty original", x.shared(0, 1, 3), 0);
        });
        Due.sentence(40, "colours, not kinds", () -> {
            Beadslant x = ClothsTest.withKinds();
            ClothsTest.newCloth(x, 'l', "00");
            ClothsTest.newCloth(x, 'l', "40");
            ClothsTest.newCloth(x, 'l', "14");
            Due.is("shared(0, 1, 2)", x.shared(0, 1, 2), 1);
        });
        Due.sentence(40, "another one, or the same", () -> {
            Beadslant x = Bench.stocked();
            ClothsTest.newCloth(x, 'p', "001");
            ClothsTest.newCloth(x, 'p', "123");
            Due.is("shared(0, 0, 1)", x.shared(0, 0, 1), 3);
            Due.is("shared(1, 0, 0)", x.shared(1, 0, 0), 0);
        });
        Due.sentence(40, "drawn cells count, gaps do not, in any of the three", () -> {
            for (int gapped = 0; gapped < 3; gapped++) {
                Beadslant x = Bench.stocked();
                for (int cloth = 0; cloth < 3; cloth++) {
                    Bench.plain(x, 'b', 3, 1, cloth == 2 ? 1 : 0);
                }
                Due.is("shared(0, 1, 2), drawn", x.shared(0, 1, 2), 3);
                x.work(gapped);
                Due.is("shared(0, 1, 2), worked", x.shared(0, 1, 2), 3);
                x.snap(gapped, 0);
                Due.is("shared(0, 1, 2), gapped", x.shared(0, 1, 2), 2);
                x.mend(gapped);
                x.sell(gapped);
                Due.is("shared(0, 1, 2), sold", x.shared(0, 1, 2), 3);
            }
        });
    }

    private static void guessRefused() {
        Due.sentence(41, "no such cloth", () -> {
            Beadslant x = new Beadslant();
            Due.fails(x, "guess(0, 0, 0, 1) without cloths", X, () -> x.guess(0, 0, 0, 1));
            Beadslant y = Bench.inEachState();
            Due.outside(y, "guess(#, 0, 0, 1)", 0, 3, X, v -> y.guess(v, 0, 0, 1));
        });
        Due.sentence(41, "no such place", () -> {
            Beadslant x = Bench.stocked();
            Bench.plain(x, 'l', 3, 2, 1);
            Due.outside(x, "guess(0, #, 0, 1)", 0, 1, X, v -> x.guess(0, v, 0, 1));
            Due.outside(x, "guess(0, 0, #, 1)", 0, 2, X, v -> x.guess(0, 0, v, 1));
            Due.is("guess(0, 1, 2, 1)", x.guess(0, 1, 2, 1), 1);
        });
        Due.sentence(41, "1 to 12", () -> {
            Beadslant x = Bench.stocked();
            Bench.plain(x, 'l', 12, 1, 1);
            Due.outside(x, "guess(0, 0, 5, #)", 1, 12, A, v -> x.guess(0, 0, 5, v));
            Due.is("guess(0, 0, 5, 1)", x.guess(0, 0, 5, 1), 1);
            Due.is("guess(0, 0, 0, 11)", x.guess(0, 0, 0, 11), 1);
            Due.fails(x, "guess(0, 0, 0, 12), no column being so far off", N, () -> x.guess(0, 0, 0, 12));
        });
        Due.sentence(41, "there are no beads to guess by", () -> {
            Beadslant x = Bench.stocked();
            ClothsTest.newCloth(x, 'l', "....", "0...", "00..", "....");
            Due.fails(x, "guess(0, 0, 0, 1) of an empty row", N, () -> x.guess(0, 0, 0, 1));
            Due.fails(x, "guess(0, 1, 0, 1), itself aside", N, () -> x.guess(0, 1, 0, 1));
            Due.fails(x, "guess(0, 2, 1, 2), one column beside alone", N, () -> x.guess(0, 2, 1, 2));
            Due.fails(x, "guess(0, 3, 1, 1), other rows alone", N, () -> x.guess(0, 3, 1, 1));
            Due.is("guess(0, 1, 1, 1)", x.guess(0, 1, 1, 1), 0);
            Due.is("guess(0, 2, 3, 3)", x.guess(0, 2, 3, 3), 0);
        });
        Due.sentence(41, "a repeat of all columns or more finds none", () -> {
            Beadslant x = Bench.stocked();
            Bench.plain(x, 'l', 2, 1, 0);
            for (int repeat = 2; repeat <= 12; repeat++) {
                int r = repeat;
                Due.fails(x, "guess(0, 0, 0, " + r + ")", N, () -> x.guess(0, 0, 0, r));
                Due.fails(x, "guess(0, 0, 1, " + r + ")", N, () -> x.guess(0, 0, 1, r));
            }
            Due.is("guess(0, 0, 1, 1)", x.guess(0, 0, 1, 1), 0);
        });
        Due.sentence(41, "a gap is no bead to guess by", () -> {
            Beadslant x = Bench.stocked();
            Bench.plain(x, 'b', 2, 1, 3);
            x.work(0);
            Due.is("guess(0, 0, 1, 1)", x.guess(0, 0, 1, 1), 3);
            x.snap(0, 0);
            Due.fails(x, "guess(0, 0, 1, 1)", N, () -> x.guess(0, 0, 1, 1));
            Due.is("guess(0, 0, 0, 1) of the gap", x.guess(0, 0, 0, 1), 3);
        });
    }

    private static void guessIs(int want, String row, int column, int repeat) {
        Beadslant x = ClothsTest.withKinds();
        ClothsTest.newCloth(x, 'l', row);
        Due.is("guess(0, 0, " + column + ", " + repeat + ") of " + row, x.guess(0, 0, column, repeat), want);
    }

    private static void guessed() {
        Due.sentence(41, "columns that differ by a multiple, before and behind", () -> {
            guessIs(2, "2..1..", 3, 3);
            guessIs(1, "2..1..", 0, 3);
            guessIs(1, "1.....", 2, 2);
            guessIs(1, "1.....", 4, 2);
            guessIs(1, ".....1", 3, 2);
            guessIs(1, ".....1", 1, 4);
            guessIs(3, "3..........2", 11, 11);
            guessIs(2, "3..........2", 0, 11);
        });
        Due.sentence(41, "the colour that most cells have", () -> {
            guessIs(3, "0133.", 4, 1);
            guessIs(3, "01330", 0, 1);
            guessIs(1, "0.0.1.1.1", 2, 2);
        });
        Due.sentence(41, "of like ones the lowest", () -> {
            guessIs(0, "3210.", 4, 1);
            guessIs(2, "3232.", 4, 1);
            guessIs(1, ".31", 0, 1);
        });
        Due.sentence(41, "itself aside", () -> {
            guessIs(1, "0011", 0, 1);
            guessIs(1, "01", 0, 1);
            guessIs(0, "01", 1, 1);
        });
        Due.sentence(41, "colours, not kinds", () -> guessIs(0, "1104404.", 7, 1));
        Due.sentence(41, "colours from 0 to 7", () -> {
            Beadslant x = new Beadslant();
            x.addKind(0, 8, 2, 0);
            x.addKind(7, 8, 2, 0);
            ClothsTest.newCloth(x, 'l', "01");
            Due.is("guess(0, 0, 1, 1)", x.guess(0, 0, 1, 1), 0);
            Due.is("guess(0, 0, 0, 1)", x.guess(0, 0, 0, 1), 7);
        });
    }
}
