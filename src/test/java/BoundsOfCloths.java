/** Each sentence of promises 6 to 10 that names a bound. */
final class BoundsOfCloths {
    private static final Class<IndexOutOfBoundsException> X = IndexOutOfBoundsException.class;
    private static final Class<IllegalArgumentException> A = IllegalArgumentException.class;
    private static final Class<IllegalStateException> S = IllegalStateException.class;
    private static final Class<UnsupportedOperationException> U = UnsupportedOperationException.class;

    private BoundsOfCloths() {
    }

    static void all() {
        addCloth();
        state();
        draw();
        kindAt();
        motifArguments();
        motifCells();
    }

    private static void addCloth() {
        Due.sentence(6, "a stitch is 'l', 'p' or 'b'", () -> {
            Beadslant x = new Beadslant();
            String near = "kmoqacLPB1 \0\377";
            for (char sign : near.toCharArray()) {
                Due.fails(x, "addCloth('" + sign + "', 2, 1)", A, () -> x.addCloth(sign, 2, 1));
            }
            for (char sign : "lpb".toCharArray()) {
                char high = (char) (sign + 256);
                Due.fails(x, "addCloth(" + (int) high + ", 2, 1)", A, () -> x.addCloth(high, 2, 1));
                x.addCloth(sign, 2, 1);
            }
            Due.is("addCloth behind three", x.addCloth('l', 2, 1), 3);
        });
        Due.sentence(6, "2 to 12 columns", () -> {
            Beadslant x = new Beadslant();
            for (char stitch : "lpb".toCharArray()) {
                Due.outside(x, "addCloth('" + stitch + "', #, 1)", 2, 12, A, v -> x.addCloth(stitch, v, 1));
            }
            x.addCloth('l', 2, 1);
            x.addCloth('l', 12, 1);
            Due.is("kindAt of the last of 2 columns", x.kindAt(0, 0, 1), -1);
            Due.is("kindAt of the last of 12 columns", x.kindAt(1, 0, 11), -1);
            Due.fails(x, "kindAt of a third column of 2", X, () -> x.kindAt(0, 0, 2));
        });
        Due.sentence(6, "1 to 12 rows", () -> {
            Beadslant x = new Beadslant();
            for (char stitch : "lpb".toCharArray()) {
                Due.outside(x, "addCloth('" + stitch + "', 2, #)", 1, 12, A, v -> x.addCloth(stitch, 2, v));
            }
            x.addCloth('l', 2, 1);
            x.addCloth('l', 2, 12);
            Due.is("kindAt of the only row", x.kindAt(0, 0, 0), -1);
            Due.is("kindAt of the last of 12 rows", x.kindAt(1, 11, 0), -1);
            Due.fails(x, "kindAt of a second row of 1", X, () -> x.kindAt(0, 1, 0));
        });
        Due.sentence(6, "the smallest and the largest cloth of each stitch", () -> {
            Beadslant x = new Beadslant();
            for (char stitch : "lpb".toCharArray()) {
                int small = x.addCloth(stitch, 2, 1);
                int large = x.addCloth(stitch, 12, 12);
                Due.fails(x, "kindAt behind the last cell", X, () -> x.kindAt(small, 0, 2));
                Due.is("kindAt of the last cell", x.kindAt(large, 11, 11), -1);
            }
        });
        Due.sentence(6, "cloths are numbered from 0, at most 6", () -> {
            Beadslant x = new Beadslant();
            for (int cloth = 0; cloth < 6; cloth++) {
                Due.is("addCloth", x.addCloth("lpb".charAt(cloth % 3), 2, 1), cloth);
            }
            Due.fails(x, "addCloth of a seventh one", S, () -> x.addCloth('l', 2, 1));
            Due.fails(x, "state(6)", X, () -> x.state(6));
        });
        Due.sentence(6, "a sold cloth makes no room", () -> {
            Beadslant x = Bench.inEachState();
            x.addCloth('l', 2, 1);
            x.addCloth('l', 2, 1);
            Due.fails(x, "addCloth of a seventh one", S, () -> x.addCloth('l', 2, 1));
        });
        Due.sentence(6, "a cloth that is refused takes no number", () -> {
            Beadslant x = new Beadslant();
            Due.fails(x, "addCloth('l', 1, 1)", A, () -> x.addCloth('l', 1, 1));
            Due.is("addCloth behind it", x.addCloth('l', 2, 1), 0);
        });
        Due.sentence(6, "each cell is empty at first", () -> {
            Beadslant x = new Beadslant();
            x.addKind(0, 8, 2, 0);
            x.addCloth('p', 12, 12);
            for (int cell = 0; cell < 144; cell++) {
                Due.is("kindAt", x.kindAt(0, cell / 12, cell % 12), -1);
            }
        });
        Due.sentence(6, "a cloth is drawn, and without rules, at first", () -> {
            Beadslant x = new Beadslant();
            x.addCloth('b', 2, 1);
            Due.is("state(0)", x.state(0), 'd');
            Due.is("setRules(0, 0)", x.setRules(0, 0), 0);
        });
    }

    private static void state() {
        Due.sentence(7, "no such cloth", () -> {
            Beadslant x = new Beadslant();
            Due.outside(x, "state(#) without cloths", 0, -1, X, v -> x.state(v));
            x.addCloth('l', 2, 1);
            Due.outside(x, "state(#) of one", 0, 0, X, v -> x.state(v));
            for (int cloth = 1; cloth < 6; cloth++) {
                x.addCloth('l', 2, 1);
            }
            Due.outside(x, "state(#) of six", 0, 5, X, v -> x.state(v));
            Due.is("state(5)", x.state(5), 'd');
        });
        Due.sentence(7, "each of the four", () -> {
            Beadslant x = Bench.inEachState();
            Due.is("state of a drawn one", x.state(Bench.DRAWN), 'd');
            Due.is("state of a worked one", x.state(Bench.WORKED), 'w');
            Due.is("state of one with gaps", x.state(Bench.GAPPED), 'g');
            Due.is("state of a sold one", x.state(Bench.SOLD), 's');
        });
    }

    private static void draw() {
        Due.sentence(8, "no such cloth", () -> {
            Beadslant x = new Beadslant();
            Due.fails(x, "draw(0, 0, 0, -1) without cloths", X, () -> x.draw(0, 0, 0, -1));
            x.addCloth('l', 2, 1);
            Due.outside(x, "draw(#, 0, 0, -1)", 0, 0, X, v -> x.draw(v, 0, 0, -1));
        });
        Due.sentence(8, "no such place", () -> {
            Beadslant x = Bench.stocked();
            x.addCloth('l', 3, 2);
            x.addCloth('l', 12, 12);
            Due.outside(x, "draw(0, #, 0, 0)", 0, 1, X, v -> x.draw(0, v, 0, 0));
            Due.outside(x, "draw(0, 0, #, 0)", 0, 2, X, v -> x.draw(0, 0, v, 0));
            Due.outside(x, "draw(1, #, 0, 0)", 0, 11, X, v -> x.draw(1, v, 0, 0));
            Due.outside(x, "draw(1, 0, #, 0)", 0, 11, X, v -> x.draw(1, 0, v, 0));
            Due.fails(x, "draw(0, 1, -1, 0), the cell before being there", X, () -> x.draw(0, 1, -1, 0));
            Due.is("draw of the first cell", x.draw(0, 0, 0, 1), -1);
            Due.is("draw of the last cell", x.draw(0, 1, 2, 1), -1);
            Due.is("draw of the last of 144 cells", x.draw(1, 11, 11, 1), -1);
        });
        Due.sentence(8, "no such kind, but for -1", () -> {
            Beadslant x = new Beadslant();
            x.addCloth('l', 2, 1);
            Due.outside(x, "draw(0, 0, 0, #) without kinds", -1, -1, X, v -> x.draw(0, 0, 0, v));
            Due.is("draw(0, 0, 0, -1) without kinds", x.draw(0, 0, 0, -1), -1);
            x.addKind(0, 8, 2, 0);
            Due.outside(x, "draw(0, 0, 0, #) of one", -1, 0, X, v -> x.draw(0, 0, 0, v));
            for (int kind = 1; kind < 8; kind++) {
                x.addKind(0, 8, 2, 0);
            }
            Due.outside(x, "draw(0, 0, 0, #) of eight", -1, 7, X, v -> x.draw(0, 0, 0, v));
            Due.is("draw(0, 0, 0, 0)", x.draw(0, 0, 0, 0), -1);
            Due.is("draw(0, 0, 0, 7)", x.draw(0, 0, 0, 7), 0);
            Due.is("draw(0, 0, 0, -1)", x.draw(0, 0, 0, -1), 7);
            Due.is("draw(0, 0, 0, -1) of an empty cell", x.draw(0, 0, 0, -1), -1);
        });
        Due.sentence(8, "it is not drawn", () -> {
            Beadslant x = Bench.inEachState();
            for (int cloth = Bench.WORKED; cloth <= Bench.SOLD; cloth++) {
                int c = cloth;
                Due.fails(x, "draw(" + c + ", 0, 0, 1)", U, () -> x.draw(c, 0, 0, 1));
                Due.fails(x, "draw(" + c + ", 0, 0, -1)", U, () -> x.draw(c, 0, 0, -1));
                Due.fails(x, "draw(" + c + ", 0, 1, 1), the kind that it has", U, () -> x.draw(c, 0, 1, 1));
            }
            Due.is("draw of a drawn one", x.draw(Bench.DRAWN, 0, 0, 1), 0);
        });
        Due.sentence(8, "drawing takes no bead", () -> {
            Beadslant x = Bench.ofOneKind(8, 2, 0, 0);
            x.addCloth('l', 2, 1);
            Due.is("draw(0, 0, 0, 0) without stock", x.draw(0, 0, 0, 0), -1);
            Due.is("stock(0)", x.stock(0), 0);
            Due.is("account('c')", x.account('c'), 0);
        });
    }

    private static void kindAt() {
        Due.sentence(9, "no such cloth", () -> {
            Beadslant x = new Beadslant();
            Due.fails(x, "kindAt(0, 0, 0) without cloths", X, () -> x.kindAt(0, 0, 0));
            x.addCloth('l', 2, 1);
            Due.outside(x, "kindAt(#, 0, 0)", 0, 0, X, v -> x.kindAt(v, 0, 0));
        });
        Due.sentence(9, "no such place", () -> {
            Beadslant x = new Beadslant();
            x.addCloth('l', 3, 2);
            x.addCloth('l', 12, 12);
            Due.outside(x, "kindAt(0, #, 0)", 0, 1, X, v -> x.kindAt(0, v, 0));
            Due.outside(x, "kindAt(0, 0, #)", 0, 2, X, v -> x.kindAt(0, 0, v));
            Due.outside(x, "kindAt(1, #, 0)", 0, 11, X, v -> x.kindAt(1, v, 0));
            Due.outside(x, "kindAt(1, 0, #)", 0, 11, X, v -> x.kindAt(1, 0, v));
            Due.fails(x, "kindAt(0, 1, -1), the cell before being there", X, () -> x.kindAt(0, 1, -1));
        });
        Due.sentence(9, "-1 for none, also for a gap", () -> {
            Beadslant x = Bench.inEachState();
            Due.is("kindAt of a gap", x.kindAt(Bench.GAPPED, 0, 0), -1);
            Due.is("kindAt beside a gap", x.kindAt(Bench.GAPPED, 0, 1), 1);
            x.draw(Bench.DRAWN, 0, 2, -1);
            Due.is("kindAt of an empty cell", x.kindAt(Bench.DRAWN, 0, 2), -1);
            Due.is("kindAt of a worked cloth", x.kindAt(Bench.WORKED, 0, 2), 2);
            Due.is("kindAt of a sold cloth", x.kindAt(Bench.SOLD, 0, 2), 2);
        });
    }

    private static void motifArguments() {
        Due.sentence(10, "no such cloth", () -> {
            Beadslant x = Bench.stocked();
            Due.fails(x, "motif(0, 1, 1, 0) without cloths", X, () -> x.motif(0, 1, 1, 0));
            Bench.plain(x, 'l', 2, 1, 0);
            Due.outside(x, "motif(#, 1, 1, 0)", 0, 0, X, v -> x.motif(v, 1, 1, 0));
        });
        Due.sentence(10, "the columns of the block, not more than the cloth has", () -> {
            Beadslant x = Bench.stocked();
            Bench.plain(x, 'l', 3, 5, 0);
            Bench.plain(x, 'l', 12, 2, 0);
            Due.outside(x, "motif(0, #, 1, 0)", 1, 3, A, v -> x.motif(0, v, 1, 0));
            Due.outside(x, "motif(1, #, 1, 0)", 1, 12, A, v -> x.motif(1, v, 1, 0));
            Due.is("motif(0, 1, 1, 0)", x.motif(0, 1, 1, 0), 0);
            Due.is("motif(0, 3, 1, 0)", x.motif(0, 3, 1, 0), 0);
            Due.is("motif(1, 12, 1, 0)", x.motif(1, 12, 1, 0), 0);
        });
        Due.sentence(10, "the rows of the block, not more than the cloth has", () -> {
            Beadslant x = Bench.stocked();
            Bench.plain(x, 'l', 5, 3, 0);
            Bench.plain(x, 'l', 2, 12, 0);
            Due.outside(x, "motif(0, 1, #, 0)", 1, 3, A, v -> x.motif(0, 1, v, 0));
            Due.outside(x, "motif(1, 1, #, 0)", 1, 12, A, v -> x.motif(1, 1, v, 0));
            Due.is("motif(0, 1, 3, 0)", x.motif(0, 1, 3, 0), 0);
            Due.is("motif(1, 1, 12, 0)", x.motif(1, 1, 12, 0), 0);
        });
        Due.sentence(10, "the lean, -12 to 12", () -> {
            Beadslant x = Bench.stocked();
            Bench.plain(x, 'l', 2, 1, 0);
            Due.outside(x, "motif(0, 1, 1, #)", -12, 12, A, v -> x.motif(0, 1, 1, v));
            Due.is("motif(0, 1, 1, -12)", x.motif(0, 1, 1, -12), 0);
            Due.is("motif(0, 1, 1, 12)", x.motif(0, 1, 1, 12), 0);
        });
        Due.sentence(10, "it is not drawn", () -> {
            Beadslant x = Bench.inEachState();
            Due.is("motif of a drawn one", x.motif(Bench.DRAWN, 1, 1, 0), 2);
            for (int cloth = Bench.WORKED; cloth <= Bench.SOLD; cloth++) {
                int c = cloth;
                Due.fails(x, "motif(" + c + ", 3, 1, 0)", U, () -> x.motif(c, 3, 1, 0));
                Due.fails(x, "motif(" + c + ", 1, 1, 0)", U, () -> x.motif(c, 1, 1, 0));
            }
        });
        Due.sentence(10, "a cell of the block is empty", () -> {
            Beadslant x = Bench.stocked();
            x.addCloth('l', 4, 4);
            Due.fails(x, "motif(0, 1, 1, 0) of an empty cloth", U, () -> x.motif(0, 1, 1, 0));
            for (int cell = 0; cell < 16; cell++) {
                ClothsTest.drawRows(x, 0, "0123", "0123", "0123", "0123");
                x.draw(0, cell / 4, cell % 4, -1);
                if (cell / 4 < 2 && cell % 4 < 3) {
                    Due.fails(x, "motif(0, 3, 2, 0) without cell " + cell, U, () -> x.motif(0, 3, 2, 0));
                } else {
                    Due.is("motif(0, 3, 2, 0) without cell " + cell, x.motif(0, 3, 2, 0) > 0, true);
                    Due.isText("the cloth then", Bench.rows(x, 0, 4, 4), "0120/0120/0120/0120");
                }
            }
        });
    }

    private static void motifCells() {
        Due.sentence(10, "how many cells have another kind then, from none to all behind the block", () -> {
            Beadslant x = Bench.stocked();
            x.addCloth('p', 12, 12);
            x.draw(0, 0, 0, 0);
            Due.is("motif(0, 1, 1, 0), all else being empty", x.motif(0, 1, 1, 0), 143);
            Due.is("motif(0, 1, 1, 0), nothing changing", x.motif(0, 1, 1, 0), 0);
            x.draw(0, 11, 11, 1);
            Due.is("motif(0, 1, 1, 0), the last cell changing", x.motif(0, 1, 1, 0), 1);
            x.draw(0, 11, 11, 1);
            Due.is("motif(0, 12, 12, 12), the block being the cloth", x.motif(0, 12, 12, 12), 0);
            Due.is("kindAt of the last cell", x.kindAt(0, 11, 11), 1);
        });
        Due.sentence(10, "another kind of the same colour is another kind", () -> {
            Beadslant x = new Beadslant();
            x.addKind(4, 8, 2, 0);
            x.addKind(4, 8, 2, 0);
            ClothsTest.newCloth(x, 'l', "01");
            Due.is("motif(0, 1, 1, 0)", x.motif(0, 1, 1, 0), 1);
            Due.is("kindAt(0, 0, 1)", x.kindAt(0, 0, 1), 0);
        });
        Due.sentence(10, "a block that the edges cut off", () -> {
            Beadslant x = Bench.stocked();
            x.addCloth('l', 5, 5);
            ClothsTest.drawRows(x, 0, "012", "123", "230");
            x.motif(0, 3, 3, 0);
            Due.isText("the cloth then", Bench.rows(x, 0, 5, 5), "01201/12312/23023/01201/12312");
            x.motif(0, 3, 3, 1);
            Due.isText("the cloth then", Bench.rows(x, 0, 5, 5), "01201/12312/23023/20120/31231");
            x.motif(0, 3, 3, -1);
            Due.isText("the cloth then", Bench.rows(x, 0, 5, 5), "01201/12312/23023/12012/23123");
        });
        Due.sentence(10, "columns modulo those of the block, from 0 on, for each lean and width", () -> {
            for (int wide = 1; wide <= 12; wide++) {
                for (int lean = -12; lean <= 12; lean++) {
                    columnsFromNull(wide, lean);
                }
            }
        });
    }

    /** Rows of a block one row high: each is the one before, moved by the lean round the block. */
    private static void columnsFromNull(int wide, int lean) {
        Beadslant x = new Beadslant();
        for (int kind = 0; kind < 8; kind++) {
            x.addKind(kind, 8, 2, 0);
        }
        x.addCloth('b', 12, 12);
        int[] block = new int[wide];
        for (int column = 0; column < wide; column++) {
            block[column] = (column * column + column / 3) % 8;
            x.draw(0, 0, column, block[column]);
        }
        x.motif(0, wide, 1, lean);
        boolean isRight = true;
        for (int row = 0; row < 12; row++) {
            for (int column = 0; column < 12; column++) {
                isRight &= x.kindAt(0, row, column) == block[(column + wide * 144 - lean * row) % wide];
            }
        }
        Due.is("motif(0, " + wide + ", 1, " + lean + ")", isRight, true);
    }
}
