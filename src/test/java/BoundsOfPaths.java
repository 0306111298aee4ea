import java.util.NoSuchElementException;

/** Each sentence of promises 17 to 24 that names a bound. */
final class BoundsOfPaths {
    private static final Class<IndexOutOfBoundsException> X = IndexOutOfBoundsException.class;
    private static final Class<UnsupportedOperationException> U = UnsupportedOperationException.class;
    private static final Class<NoSuchElementException> N = NoSuchElementException.class;

    private BoundsOfPaths() {
    }

    static void all() {
        pathLength();
        passAt();
        workRefused();
        workNeeds();
        passes();
        snapRefused();
        snapReaches();
        mendRefused();
        mendNeeds();
        mended();
        rowWidth();
        lean();
    }

    private static void pathLength() {
        Due.sentence(17, "no such cloth", () -> {
            Beadslant x = new Beadslant();
            Due.fails(x, "pathLength(0) without cloths", X, () -> x.pathLength(0));
            x.addCloth('l', 2, 1);
            Due.outside(x, "pathLength(#)", 0, 0, X, v -> x.pathLength(v));
        });
        Due.sentence(17, "each size of each stitch", () -> {
            for (int columns = 2; columns <= 12; columns++) {
                for (int rows = 1; rows <= 12; rows++) {
                    Beadslant x = new Beadslant();
                    int cells = columns * rows;
                    // By peyote: each bead, those that have a column beside as it goes back, and those of a row before.
                    int back = columns / 2 * rows;
                    int before = columns / 2 * (rows - 1);
                    x.addCloth('l', columns, rows);
                    x.addCloth('b', columns, rows);
                    x.addCloth('p', columns, rows);
                    String of = " of " + columns + " by " + rows;
                    Due.is("pathLength by loom" + of, x.pathLength(0), 2 * cells);
                    Due.is("pathLength by brick" + of, x.pathLength(1), 2 * cells);
                    Due.is("pathLength by peyote" + of, x.pathLength(2), cells + back + before);
                }
            }
        });
        Due.sentence(17, "in each state, empty cells too", () -> {
            Beadslant x = Bench.inEachState();
            for (int cloth = 0; cloth < 4; cloth++) {
                Due.is("pathLength", x.pathLength(cloth), 6);
            }
            x.addCloth('l', 3, 1);
            Due.is("pathLength of an empty cloth", x.pathLength(4), 6);
        });
    }

    private static void pathIs(char stitch, int columns, int rows, String want) {
        Beadslant x = new Beadslant();
        x.addCloth(stitch, columns, rows);
        StringBuilder path = new StringBuilder();
        for (int place = 0; place < x.pathLength(0); place++) {
            path.append(x.passAt(0, place)).append(' ');
        }
        Due.isText("the path of " + stitch + " " + columns + " by " + rows, path.toString().trim(), want);
        Due.outside(x, "passAt(0, #)", 0, x.pathLength(0) - 1, N, v -> x.passAt(0, v));
    }

    private static void passAt() {
        Due.sentence(18, "no such cloth", () -> {
            Beadslant x = new Beadslant();
            Due.fails(x, "passAt(0, 0) without cloths", X, () -> x.passAt(0, 0));
            x.addCloth('l', 2, 1);
            Due.outside(x, "passAt(#, 0)", 0, 0, X, v -> x.passAt(v, 0));
        });
        Due.sentence(18, "no such place, and the first and last one, by loom", () -> {
            pathIs('l', 2, 1, "0 1 1 0");
            pathIs('l', 2, 3, "0 1 1 0 2 3 3 2 4 5 5 4");
            pathIs('l', 3, 1, "0 1 2 2 1 0");
            pathIs('l', 12, 1, "0 1 2 3 4 5 6 7 8 9 10 11 11 10 9 8 7 6 5 4 3 2 1 0");
        });
        Due.sentence(18, "no such place, and the first and last one, by brick", () -> {
            pathIs('b', 2, 1, "0 0 1 1");
            pathIs('b', 2, 4, "0 0 1 1 3 3 2 2 4 4 5 5 7 7 6 6");
            pathIs('b', 3, 2, "0 0 1 1 2 2 5 5 4 4 3 3");
        });
        Due.sentence(18, "by peyote, without a column beside", () -> {
            pathIs('p', 3, 1, "0 2 1 0");
            pathIs('p', 5, 2, "0 2 4 3 2 1 0 5 1 7 3 9 8 7 6 5");
        });
        Due.sentence(18, "by peyote, without a row before", () -> {
            pathIs('p', 2, 1, "0 1 0");
            pathIs('p', 4, 1, "0 2 3 2 1 0");
        });
        Due.sentence(18, "by peyote, each row forth and back", () -> {
            pathIs('p', 2, 3, "0 1 0 2 1 3 2 4 3 5 4");
            pathIs('p', 3, 3, "0 2 1 0 3 1 5 4 3 6 4 8 7 6");
        });
        Due.sentence(18, "the last place of the largest cloth", () -> {
            Beadslant x = new Beadslant();
            x.addCloth('l', 12, 12);
            x.addCloth('p', 12, 12);
            x.addCloth('b', 12, 12);
            Due.is("passAt(0, 287)", x.passAt(0, 287), 132);
            Due.is("passAt(1, 281)", x.passAt(1, 281), 132);
            Due.is("passAt(2, 287)", x.passAt(2, 287), 132);
            Due.outside(x, "passAt(0, #)", 0, 287, N, v -> x.passAt(0, v));
            Due.outside(x, "passAt(1, #)", 0, 281, N, v -> x.passAt(1, v));
            Due.outside(x, "passAt(2, #)", 0, 287, N, v -> x.passAt(2, v));
        });
    }

    private static void workRefused() {
        Due.sentence(19, "no such cloth", () -> {
            Beadslant x = new Beadslant();
            Due.fails(x, "work(0) without cloths", X, () -> x.work(0));
            x.addCloth('l', 2, 1);
            Due.outside(x, "work(#)", 0, 0, X, v -> x.work(v));
        });
        Due.sentence(19, "it is not drawn", () -> {
            Beadslant x = Bench.inEachState();
            for (int cloth = Bench.WORKED; cloth <= Bench.SOLD; cloth++) {
                int c = cloth;
                Due.fails(x, "work(" + c + ")", U, () -> x.work(c));
            }
            Due.is("work of a drawn one", x.work(Bench.DRAWN), 9999 - 4 * 60);
        });
        Due.sentence(19, "a cell is empty, the first, the last or all", () -> {
            Beadslant x = Bench.stocked();
            for (String rows : new String[] {".00/000", "000/00.", ".../...", "000/.00"}) {
                int cloth = ClothsTest.newCloth(x, 'p', rows.split("/"));
                Due.fails(x, "work of " + rows, U, () -> x.work(cloth));
            }
        });
    }

    private static void workNeeds() {
        Due.sentence(19, "beads lack: just enough of each kind, and one fewer", () -> {
            for (int lacking = 0; lacking < 4; lacking++) {
                Beadslant x = new Beadslant();
                for (int kind = 0; kind < 4; kind++) {
                    x.addKind(0, 8, 2, 0);
                    x.buy(kind, kind == lacking ? 2 : 3);
                }
                x.thread(999);
                ClothsTest.newCloth(x, 'l', "0123", "0123", "0123");
                Due.fails(x, "work(0) without a bead of " + lacking, U, () -> x.work(0));
                x.buy(lacking, 1);
                Due.is("work(0)", x.work(0), 999 - 2 * 12 * 8);
                Due.is("account('s')", x.account('s'), 0);
            }
        });
        Due.sentence(19, "beads lack: none at all", () -> {
            Beadslant x = Bench.ofOneKind(8, 2, 0, 999);
            Bench.plain(x, 'l', 2, 1, 0);
            Due.fails(x, "work(0)", U, () -> x.work(0));
        });
        Due.sentence(19, "beads lack: strung ones are not in stock", () -> {
            Beadslant x = Bench.ofOneKind(8, 2, 2, 999);
            Bench.plain(x, 'l', 2, 1, 0);
            x.string(0);
            Due.fails(x, "work(0)", U, () -> x.work(0));
            x.buy(0, 1);
            Due.is("work(0)", x.work(0), 967);
        });
        Due.sentence(19, "a hole of 2 is wide enough for each path", () -> {
            for (char stitch : "lpb".toCharArray()) {
                Beadslant x = Bench.ofOneKind(8, 2, 144, 9999);
                Bench.plain(x, stitch, 12, 12, 0);
                Due.is("work(0)", x.work(0), 9999 - 8 * x.pathLength(0));
            }
        });
        Due.sentence(19, "the thread is as long, or one too short", () -> {
            int[] needed = {4 * 8, 3 * 8, 4 * 8, 288 * 30, 282 * 30, 288 * 30};
            for (int i = 0; i < 6; i++) {
                boolean isSmall = i < 3;
                Beadslant x = Bench.ofOneKind(isSmall ? 8 : 30, 2, 144, needed[i] - 1);
                Bench.plain(x, "lpb".charAt(i % 3), isSmall ? 2 : 12, isSmall ? 1 : 12, 0);
                Due.fails(x, "work(0)", U, () -> x.work(0));
                x.thread(1);
                Due.is("work(0)", x.work(0), 0);
            }
        });
        Due.sentence(19, "the thread counts each bead's own width, each time that it is passed", () -> {
            Beadslant x = new Beadslant();
            for (int kind = 0; kind < 3; kind++) {
                x.addKind(0, 8 + 10 * kind, 2, 0);
                x.buy(kind, 1);
            }
            ClothsTest.newCloth(x, 'p', "012");
            x.thread(8 + 28 + 18 + 8 - 1);
            Due.fails(x, "work(0)", U, () -> x.work(0));
            x.thread(1);
            Due.is("work(0)", x.work(0), 0);
        });
        Due.sentence(19, "without thread", () -> {
            Beadslant x = Bench.ofOneKind(8, 2, 2, 0);
            Bench.plain(x, 'b', 2, 1, 0);
            Due.fails(x, "work(0)", U, () -> x.work(0));
        });
        Due.sentence(19, "the beads are in the cloth then", () -> {
            Beadslant x = Bench.ofOneKind(8, 2, 145, 9999);
            Bench.plain(x, 'b', 12, 12, 0);
            x.work(0);
            Due.is("stock(0)", x.stock(0), 1);
            Due.is("account('c')", x.account('c'), 144);
            Due.is("state(0)", x.state(0), 'w');
        });
    }

    private static void passes() {
        Due.sentence(20, "no such cloth", () -> {
            Beadslant x = new Beadslant();
            Due.fails(x, "passes(0, 0, 0) without cloths", X, () -> x.passes(0, 0, 0));
            Beadslant y = Bench.inEachState();
            Due.outside(y, "passes(#, 0, 0)", 0, 3, X, v -> y.passes(v, 0, 0));
        });
        Due.sentence(20, "no such place", () -> {
            Beadslant x = Bench.stocked();
            Bench.plain(x, 'l', 3, 2, 0);
            x.work(0);
            Due.outside(x, "passes(0, #, 0)", 0, 1, X, v -> x.passes(0, v, 0));
            Due.outside(x, "passes(0, 0, #)", 0, 2, X, v -> x.passes(0, 0, v));
            Due.fails(x, "passes(0, 1, -1), the cell before being there", X, () -> x.passes(0, 1, -1));
            Due.is("passes of the first cell", x.passes(0, 0, 0), 2);
            Due.is("passes of the last cell", x.passes(0, 1, 2), 2);
        });
        Due.sentence(20, "it is drawn", () -> {
            Beadslant x = Bench.inEachState();
            Due.fails(x, "passes of a drawn one", U, () -> x.passes(Bench.DRAWN, 0, 0));
            Due.is("passes of a worked one", x.passes(Bench.WORKED, 0, 0), 2);
            Due.is("passes beside a gap", x.passes(Bench.GAPPED, 0, 1), 2);
            Due.is("passes of a sold one", x.passes(Bench.SOLD, 0, 0), 2);
        });
        Due.sentence(20, "0 for a gap", () -> {
            Beadslant x = Bench.inEachState();
            Due.is("passes of a gap", x.passes(Bench.GAPPED, 0, 0), 0);
        });
        Due.sentence(20, "each as often as the path goes through it, at the edges by peyote once", () -> {
            Beadslant x = Bench.stocked();
            Bench.plain(x, 'p', 5, 3, 0);
            x.work(0);
            String want = "222212222121211";
            for (int cell = 0; cell < 15; cell++) {
                Due.is("passes of " + cell, x.passes(0, cell / 5, cell % 5), want.charAt(cell) - '0');
            }
        });
    }

    private static void snapRefused() {
        Due.sentence(21, "no such cloth", () -> {
            Beadslant x = new Beadslant();
            Due.fails(x, "snap(0, 0) without cloths", X, () -> x.snap(0, 0));
            Beadslant y = Bench.inEachState();
            Due.outside(y, "snap(#, 0)", 0, 3, X, v -> y.snap(v, 0));
        });
        Due.sentence(21, "no such place", () -> {
            for (char stitch : "lpb".toCharArray()) {
                Beadslant x = Bench.stocked();
                Bench.plain(x, stitch, 5, 3, 0);
                x.work(0);
                int last = x.pathLength(0) - 1;
                Due.outside(x, "snap(0, #)", 0, last, N, v -> x.snap(0, v));
                Due.is("snap of the last place", x.snap(0, last) >= 0, true);
            }
        });
        Due.sentence(21, "it is not worked", () -> {
            Beadslant x = Bench.inEachState();
            Due.fails(x, "snap of a drawn one", U, () -> x.snap(Bench.DRAWN, 0));
            Due.fails(x, "snap of one with gaps", U, () -> x.snap(Bench.GAPPED, 5));
            Due.fails(x, "snap of a sold one", U, () -> x.snap(Bench.SOLD, 0));
            Due.is("snap of a worked one", x.snap(Bench.WORKED, 0), 1);
        });
    }

    /** Snaps at each place of a new cloth in turn; want tells the rows behind each snap, '.' being the gaps. */
    private static void snapsAre(char stitch, int columns, int rows, String... want) {
        for (int place = 0; place < want.length; place++) {
            Beadslant x = Bench.stocked();
            Bench.plain(x, stitch, columns, rows, 0);
            x.work(0);
            Due.is("length of " + stitch, x.pathLength(0), want.length);
            int fallen = (int) want[place].chars().filter(sign -> sign == '.').count();
            String call = "snap(0, " + place + ") of " + stitch + " " + columns + " by " + rows;
            Due.is(call, x.snap(0, place), fallen);
            Due.isText("the cloth behind " + call, Bench.rows(x, 0, columns, rows), want[place]);
            Due.is("the state behind " + call, x.state(0), fallen == 0 ? 'w' : 'g');
            Due.is("lost behind " + call, x.account('l'), fallen);
            Due.is("in cloths behind " + call, x.account('c'), columns * rows - fallen);
        }
    }

    private static void snapReaches() {
        Due.sentence(21, "at most 2 places from there, by brick", () -> {
            snapsAre('b', 2, 1, ".0", "..", "..", "0.");
            snapsAre('b', 4, 1, ".000", "..00", "..00", "0..0", "0..0", "00..", "00..", "000.");
        });
        Due.sentence(21, "all its passes, by loom", () -> {
            snapsAre('l', 2, 1, "0.", "..", "..", "0.");
            snapsAre('l', 3, 1, "000", "00.", "0..", "0..", "00.", "000");
            snapsAre('l', 2, 2, "0./00", "../00", "../00", "0./00", "00/0.", "00/..", "00/..", "00/0.");
        });
        Due.sentence(21, "all its passes, by peyote", () -> {
            snapsAre('p', 2, 1, "..", "..", "..");
            snapsAre('p', 3, 1, "0..", "...", "...", "0..");
        });
        Due.sentence(21, "a bead that is passed in two rows, by peyote", () -> {
            // The path is 0 1 0 2 1 3 2.
            snapsAre('p', 2, 2, ".0/00", ".0/00", "../00", "0./0.", "00/..", "00/..", "00/0.");
        });
        Due.sentence(21, "none falls, and nothing changes", () -> {
            Beadslant x = Bench.stocked();
            Bench.plain(x, 'l', 12, 12, 0);
            x.work(0);
            String before = Sight.of(x);
            Due.is("snap(0, 0)", x.snap(0, 0), 0);
            Due.isText("what is seen then", Sight.of(x), before);
            Due.fails(x, "mend(0)", U, () -> x.mend(0));
        });
        Due.sentence(21, "all beads of a cloth fall", () -> {
            Beadslant x = Bench.stocked();
            Bench.plain(x, 'b', 2, 1, 0);
            x.work(0);
            Due.is("snap(0, 1)", x.snap(0, 1), 2);
            Due.is("account('c')", x.account('c'), 0);
            Due.is("rowWidth(0, 0)", x.rowWidth(0, 0), 0);
            Due.is("mend(0)", x.mend(0), 2);
            Due.is("passes(0, 0, 0)", x.passes(0, 0, 0), 2);
            Due.is("passes(0, 0, 1)", x.passes(0, 0, 1), 2);
            Due.is("account('c')", x.account('c'), 2);
        });
        Due.sentence(21, "the thread and the stock stay as they are", () -> {
            Beadslant x = Bench.inEachState();
            int stock = x.account('s');
            int thread = x.thread(0);
            x.snap(Bench.WORKED, 3);
            Due.is("account('s')", x.account('s'), stock);
            Due.is("thread(0)", x.thread(0), thread);
        });
    }

    private static void mendRefused() {
        Due.sentence(22, "no such cloth", () -> {
            Beadslant x = new Beadslant();
            Due.fails(x, "mend(0) without cloths", X, () -> x.mend(0));
            Beadslant y = Bench.inEachState();
            Due.outside(y, "mend(#)", 0, 3, X, v -> y.mend(v));
        });
        Due.sentence(22, "it has none", () -> {
            Beadslant x = Bench.inEachState();
            Due.fails(x, "mend of a drawn one", U, () -> x.mend(Bench.DRAWN));
            Due.fails(x, "mend of a worked one", U, () -> x.mend(Bench.WORKED));
            Due.fails(x, "mend of a sold one", U, () -> x.mend(Bench.SOLD));
            Due.is("mend of one with gaps", x.mend(Bench.GAPPED), 1);
            Due.fails(x, "mend of a mended one", U, () -> x.mend(Bench.GAPPED));
            x.draw(Bench.DRAWN, 0, 0, -1);
            Due.fails(x, "mend of a drawn one with an empty cell", U, () -> x.mend(Bench.DRAWN));
        });
    }

    /** A brick cloth of the kinds 0 and 1 in one row, snapped so that both fall, with so many beads left. */
    private static Beadslant withTwoGaps(int first, int second) {
        Beadslant x = new Beadslant();
        x.addKind(0, 8, 9, 0);
        x.addKind(1, 8, 9, 0);
        x.buy(0, 1 + first);
        x.buy(1, 2 + second);
        x.thread(999);
        ClothsTest.newCloth(x, 'b', "011");
        x.work(0);
        Due.is("snap(0, 1)", x.snap(0, 1), 2);
        return x;
    }

    private static void mendNeeds() {
        Due.sentence(22, "beads lack: just enough of each kind, and one fewer", () -> {
            for (int kind = 0; kind < 2; kind++) {
                Beadslant x = withTwoGaps(kind, 1 - kind);
                int lacking = kind;
                Due.fails(x, "mend(0) without a bead of kind " + lacking, U, () -> x.mend(0));
                x.buy(lacking, 1);
                Due.is("mend(0)", x.mend(0), 2);
                Due.is("account('s')", x.account('s'), 0);
                Due.isText("the cloth then", Bench.rows(x, 0, 3, 1), "011");
            }
        });
        Due.sentence(22, "beads lack: two of one kind, and one is there", () -> {
            Beadslant x = Bench.ofOneKind(8, 9, 5, 999);
            Bench.plain(x, 'b', 4, 1, 0);
            x.work(0);
            Due.is("snap(0, 3)", x.snap(0, 3), 2);
            Due.fails(x, "mend(0)", U, () -> x.mend(0));
            x.buy(0, 1);
            Due.is("mend(0)", x.mend(0), 2);
        });
        Due.sentence(22, "a hole is too narrow: passed just so often, and once more", () -> {
            for (int hole = 2; hole <= 9; hole++) {
                Beadslant x = new Beadslant();
                x.addKind(0, 8, 2, 0);
                x.addKind(1, 8, hole, 0);
                x.buy(0, 99);
                x.buy(1, 99);
                x.thread(999);
                ClothsTest.newCloth(x, 'b', "011");
                x.work(0);
                for (int passes = 3; passes <= hole; passes++) {
                    x.snap(0, 0);
                    Due.is("mend(0)", x.mend(0), 1);
                    Due.is("passes(0, 0, 1)", x.passes(0, 0, 1), passes);
                    Due.is("isSound()", x.isSound(), true);
                }
                x.snap(0, 0);
                Due.fails(x, "mend(0) with a hole of " + hole, U, () -> x.mend(0));
                Due.is("state(0)", x.state(0), 'g');
            }
        });
        Due.sentence(22, "a hole of the first cell is too narrow", () -> {
            Beadslant x = new Beadslant();
            x.addKind(0, 8, 2, 0);
            x.addKind(1, 8, 9, 0);
            x.buy(0, 9);
            x.buy(1, 9);
            x.thread(999);
            ClothsTest.newCloth(x, 'b', "01");
            x.work(0);
            Due.is("snap(0, 3)", x.snap(0, 3), 1);
            Due.fails(x, "mend(0)", U, () -> x.mend(0));
        });
        Due.sentence(22, "a hole is too narrow for two gaps beside, not for one", () -> {
            for (int hole = 3; hole <= 4; hole++) {
                Beadslant x = new Beadslant();
                x.addKind(0, 8, 9, 0);
                x.addKind(1, 8, hole, 0);
                x.buy(0, 99);
                x.buy(1, 99);
                x.thread(999);
                ClothsTest.newCloth(x, 'b', "000", "010");
                x.work(0);
                // The path is 0 0 1 1 2 2 5 5 4 4 3 3; at place 6 the cells 2 and 5 fall, both beside cell 4.
                Due.is("snap(0, 6)", x.snap(0, 6), 2);
                if (hole == 3) {
                    Due.fails(x, "mend(0) with a hole of 3", U, () -> x.mend(0));
                } else {
                    Due.is("mend(0) with a hole of 4", x.mend(0), 2);
                    Due.is("passes(0, 1, 1)", x.passes(0, 1, 1), 4);
                }
            }
        });
        Due.sentence(22, "without thread", () -> {
            Beadslant x = Bench.ofOneKind(8, 3, 9, 4 * 8);
            Bench.plain(x, 'b', 2, 1, 0);
            Due.is("work(0)", x.work(0), 0);
            x.snap(0, 0);
            Due.is("mend(0)", x.mend(0), 1);
            Due.is("thread(0)", x.thread(0), 0);
        });
    }

    private static void mended() {
        Due.sentence(22, "each gets a bead of its kind, which was passed twice then", () -> {
            Beadslant x = Bench.stocked();
            ClothsTest.newCloth(x, 'p', "012");
            x.work(0);
            Due.is("passes(0, 0, 2)", x.passes(0, 0, 2), 1);
            Due.is("snap(0, 0)", x.snap(0, 0), 2);
            Due.isText("the cloth then", Bench.rows(x, 0, 3, 1), "0..");
            Due.is("mend(0)", x.mend(0), 2);
            Due.isText("the cloth then", Bench.rows(x, 0, 3, 1), "012");
            Due.is("passes(0, 0, 2)", x.passes(0, 0, 2), 2);
            Due.is("passes(0, 0, 1)", x.passes(0, 0, 1), 2);
            Due.is("passes(0, 0, 0)", x.passes(0, 0, 0), 2 + 1);
            Due.is("state(0)", x.state(0), 'w');
        });
        Due.sentence(22, "a neighbour that is a gap itself is not passed once more", () -> {
            Beadslant x = Bench.ofOneKind(8, 2, 9, 999);
            Bench.plain(x, 'b', 2, 1, 0);
            x.work(0);
            Due.is("snap(0, 1)", x.snap(0, 1), 2);
            Due.is("mend(0) with holes of 2", x.mend(0), 2);
            Due.is("passes(0, 0, 0)", x.passes(0, 0, 0), 2);
        });
        Due.sentence(22, "each neighbour of a gap is passed once more for each such gap, by loom", () ->
                neighboursArePassed('l', BoundsOfRules.ASIDE + BoundsOfRules.BELOW));
        Due.sentence(22, "each neighbour of a gap is passed once more for each such gap, by peyote", () ->
                neighboursArePassed('p', BoundsOfRules.ASIDE + BoundsOfRules.BELOW + BoundsOfRules.PEYOTE));
        Due.sentence(22, "each neighbour of a gap is passed once more for each such gap, by brick", () ->
                neighboursArePassed('b', BoundsOfRules.ASIDE + BoundsOfRules.BELOW + BoundsOfRules.BRICK));
        Due.sentence(22, "what was mended is no gap any more", () -> {
            Beadslant x = Bench.stocked();
            Bench.plain(x, 'b', 6, 1, 0);
            x.work(0);
            Due.is("snap(0, 0)", x.snap(0, 0), 1);
            Due.is("mend(0)", x.mend(0), 1);
            Due.is("snap(0, 11)", x.snap(0, 11), 1);
            Due.is("mend(0) of the other end", x.mend(0), 1);
            Due.is("stock(0)", x.stock(0), 900 - 8);
            String want = "232232";
            for (int cell = 0; cell < 6; cell++) {
                Due.is("passes of " + cell, x.passes(0, 0, cell), want.charAt(cell) - '0');
            }
        });
        Due.sentence(22, "the path stays as it was", () -> {
            Beadslant x = Bench.stocked();
            Bench.plain(x, 'p', 3, 3, 0);
            x.work(0);
            x.snap(0, 0);
            StringBuilder gapped = new StringBuilder();
            for (int place = 0; place < x.pathLength(0); place++) {
                gapped.append(x.passAt(0, place));
            }
            Due.isText("the path with gaps", gapped.toString(), "02103154364876");
            x.mend(0);
            Due.is("pathLength(0)", x.pathLength(0), 14);
            Due.is("snap(0, 0) again", x.snap(0, 0), 1);
        });
    }

    /** Snaps and mends at each place of a cloth of three columns and rows, whose neighbours are told. */
    private static void neighboursArePassed(char stitch, String neighbours) {
        int places = stitch == 'p' ? 14 : 18;
        for (int place = 0; place < places; place++) {
            Beadslant x = Bench.stocked();
            Bench.plain(x, stitch, 3, 3, 0);
            x.work(0);
            int[] want = new int[9];
            for (int cell = 0; cell < 9; cell++) {
                want[cell] = x.passes(0, cell / 3, cell % 3);
            }
            if (x.snap(0, place) == 0) {
                continue;
            }
            for (int gap = 0; gap < 9; gap++) {
                for (int cell = 0; cell < 9 && x.kindAt(0, gap / 3, gap % 3) == -1; cell++) {
                    String two = Math.min(gap, cell) + "" + Math.max(gap, cell) + " ";
                    if (x.kindAt(0, cell / 3, cell % 3) == -1) {
                        want[cell] = 2;
                    } else if (neighbours.contains(two)) {
                        want[cell]++;
                    }
                }
            }
            x.mend(0);
            for (int cell = 0; cell < 9; cell++) {
                Due.is("passes of " + cell + " of " + stitch + " snapped at " + place,
                        x.passes(0, cell / 3, cell % 3), want[cell]);
            }
        }
    }

    private static void rowWidth() {
        Due.sentence(23, "no such cloth", () -> {
            Beadslant x = new Beadslant();
            Due.fails(x, "rowWidth(0, 0) without cloths", X, () -> x.rowWidth(0, 0));
            x.addCloth('l', 2, 1);
            Due.outside(x, "rowWidth(#, 0)", 0, 0, X, v -> x.rowWidth(v, 0));
        });
        Due.sentence(23, "no such row", () -> {
            Beadslant x = new Beadslant();
            x.addCloth('l', 12, 1);
            x.addCloth('l', 2, 12);
            Due.outside(x, "rowWidth(0, #)", 0, 0, X, v -> x.rowWidth(0, v));
            Due.outside(x, "rowWidth(1, #)", 0, 11, X, v -> x.rowWidth(1, v));
            Due.is("rowWidth(1, 11)", x.rowWidth(1, 11), 0);
        });
        Due.sentence(23, "0 without any, empty cells and gaps aside", () -> {
            Beadslant x = Bench.inEachState();
            Due.is("rowWidth of a full row", x.rowWidth(Bench.WORKED, 0), 30);
            Due.is("rowWidth with a gap", x.rowWidth(Bench.GAPPED, 0), 20);
            Due.is("rowWidth of a sold one", x.rowWidth(Bench.SOLD, 0), 30);
            x.draw(Bench.DRAWN, 0, 1, -1);
            Due.is("rowWidth with an empty cell", x.rowWidth(Bench.DRAWN, 0), 20);
            x.addCloth('l', 12, 12);
            Due.is("rowWidth of an empty row", x.rowWidth(4, 0), 0);
        });
        Due.sentence(23, "from one bead of 8 to twelve of 30", () -> {
            Beadslant x = new Beadslant();
            x.addKind(0, 8, 2, 0);
            x.addKind(0, 30, 2, 0);
            Bench.plain(x, 'l', 12, 2, 1);
            ClothsTest.newCloth(x, 'l', ".0");
            Due.is("rowWidth(0, 1)", x.rowWidth(0, 1), 360);
            Due.is("rowWidth(1, 0)", x.rowWidth(1, 0), 8);
        });
    }

    private static void lean() {
        Due.sentence(24, "no such cloth", () -> {
            Beadslant x = new Beadslant();
            Due.fails(x, "lean(0) without cloths", X, () -> x.lean(0));
            x.addCloth('l', 2, 1);
            Due.outside(x, "lean(#)", 0, 0, X, v -> x.lean(v));
        });
        Due.sentence(24, "0 of one row, and of an empty cloth", () -> {
            Beadslant x = Bench.inEachState();
            Due.is("lean of one row", x.lean(Bench.DRAWN), 0);
            Due.is("lean of one row with a gap", x.lean(Bench.GAPPED), 0);
            x.addCloth('p', 12, 12);
            Due.is("lean of an empty cloth", x.lean(4), 0);
        });
        Due.sentence(24, "an empty row is the narrowest one, the first, between or the last", () -> {
            for (int empty = 0; empty < 3; empty++) {
                Beadslant x = new Beadslant();
                x.addKind(0, 30, 2, 0);
                x.addCloth('l', 12, 3);
                for (int cell = 0; cell < 36; cell++) {
                    x.draw(0, cell / 12, cell % 12, cell / 12 == empty ? -1 : 0);
                }
                Due.is("lean(0)", x.lean(0), 360);
            }
        });
        Due.sentence(24, "the widest row is the first, between or the last", () -> {
            for (int wide = 0; wide < 3; wide++) {
                Beadslant x = new Beadslant();
                x.addKind(0, 8, 2, 0);
                x.addKind(0, 9, 2, 0);
                Bench.plain(x, 'l', 3, 3, 0);
                x.draw(0, wide, 2, 1);
                Due.is("lean(0)", x.lean(0), 1);
            }
        });
    }
}
