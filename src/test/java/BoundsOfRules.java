import java.util.NoSuchElementException;

/** Each sentence of promises 11 to 16 that names a bound. */
final class BoundsOfRules {
    private static final Class<IndexOutOfBoundsException> X = IndexOutOfBoundsException.class;
    private static final Class<IllegalArgumentException> A = IllegalArgumentException.class;
    private static final Class<UnsupportedOperationException> U = UnsupportedOperationException.class;
    private static final Class<NoSuchElementException> N = NoSuchElementException.class;

    // The cells of a cloth of three columns and rows are 0 to 8.
    static final String ASIDE = "01 12 34 45 67 78 ";
    static final String BELOW = "03 14 25 36 47 58 ";
    static final String CORNERS = "04 13 15 24 37 46 48 57 ";
    static final String PEYOTE = "13 15 46 48 ";
    static final String BRICK = "13 24 37 48 ";

    private BoundsOfRules() {
    }

    static void all() {
        setRules();
        brokenArguments();
        brokenTwos();
        brokenThrees();
        brokenFrame();
        waysArguments();
        waysCounted();
        fill();
        repeat();
        isMirrored();
    }

    private static void setRules() {
        Due.sentence(11, "no such cloth", () -> {
            Beadslant x = new Beadslant();
            Due.fails(x, "setRules(0, 0) without cloths", X, () -> x.setRules(0, 0));
            x.addCloth('l', 2, 1);
            Due.outside(x, "setRules(#, 0)", 0, 0, X, v -> x.setRules(v, 0));
        });
        Due.sentence(11, "0 to 15", () -> {
            Beadslant x = new Beadslant();
            x.addCloth('l', 2, 1);
            Due.outside(x, "setRules(0, #)", 0, 15, A, v -> x.setRules(0, v));
            int before = 0;
            for (int rules = 15; rules >= 0; rules--) {
                Due.is("setRules(0, " + rules + ")", x.setRules(0, rules), before);
                before = rules;
            }
        });
        Due.sentence(11, "0 at first, each cloth having its own", () -> {
            Beadslant x = new Beadslant();
            for (int cloth = 0; cloth < 6; cloth++) {
                x.addCloth('l', 2, 1);
                Due.is("setRules", x.setRules(cloth, cloth + 1), 0);
            }
            for (int cloth = 0; cloth < 6; cloth++) {
                Due.is("setRules again", x.setRules(cloth, 0), cloth + 1);
            }
        });
        Due.sentence(11, "rules are set in each state", () -> {
            Beadslant x = Bench.inEachState();
            for (int cloth = 0; cloth < 4; cloth++) {
                Due.is("setRules", x.setRules(cloth, 15), 0);
                Due.is("setRules", x.setRules(cloth, 0), 15);
            }
        });
    }

    private static void brokenArguments() {
        Due.sentence(12, "no such cloth", () -> {
            Beadslant x = new Beadslant();
            Due.fails(x, "broken(0, 1) without cloths", X, () -> x.broken(0, 1));
            x.addCloth('l', 2, 1);
            Due.outside(x, "broken(#, 1)", 0, 0, X, v -> x.broken(v, 1));
        });
        Due.sentence(12, "1, 2, 4 or 8", () -> {
            Beadslant x = new Beadslant();
            x.addCloth('l', 2, 1);
            for (int rule = -20; rule <= 40; rule++) {
                int r = rule;
                if (rule == 1 || rule == 2 || rule == 4 || rule == 8) {
                    Due.is("broken(0, " + rule + ")", x.broken(0, rule), 0);
                } else {
                    Due.fails(x, "broken(0, " + rule + ")", A, () -> x.broken(0, r));
                }
            }
            Due.outside(x, "broken(0, #)", 1, 8, A, v -> x.broken(0, v));
        });
        Due.sentence(12, "whether it is one of the cloth or not", () -> {
            Beadslant x = Bench.stocked();
            ClothsTest.newCloth(x, 'l', "010", "001", "111");
            for (int rules = 0; rules < 16; rules++) {
                x.setRules(0, rules);
                Due.is("broken(0, 1)", x.broken(0, 1), 5);
                Due.is("broken(0, 2)", x.broken(0, 2), 4);
                Due.is("broken(0, 4)", x.broken(0, 4), 1);
                Due.is("broken(0, 8)", x.broken(0, 8), 5);
            }
        });
        Due.sentence(12, "empty cells break none", () -> {
            for (char stitch : "lpb".toCharArray()) {
                Beadslant x = Bench.stocked();
                x.addCloth(stitch, 12, 12);
                brokenAre(x, 0, 0, 0, 0, 0);
                x.draw(0, 6, 6, 0);
                brokenAre(x, 0, 0, 0, 0, 0);
            }
        });
        Due.sentence(12, "a cloth is read in each state", () -> {
            Beadslant x = Bench.stocked();
            for (int cloth = 0; cloth < 4; cloth++) {
                ClothsTest.newCloth(x, 'b', "000");
            }
            for (int cloth = Bench.WORKED; cloth <= Bench.SOLD; cloth++) {
                x.work(cloth);
            }
            x.snap(Bench.GAPPED, 0);
            x.sell(Bench.SOLD);
            brokenAre(x, Bench.DRAWN, 2, 0, 1, 0);
            brokenAre(x, Bench.WORKED, 2, 0, 1, 0);
            brokenAre(x, Bench.GAPPED, 1, 0, 0, 0);
            brokenAre(x, Bench.SOLD, 2, 0, 1, 0);
        });
    }

    private static void brokenAre(Beadslant x, int cloth, int neighbours, int slants, int threes, int frame) {
        Due.is("broken(" + cloth + ", 1)", x.broken(cloth, 1), neighbours);
        Due.is("broken(" + cloth + ", 2)", x.broken(cloth, 2), slants);
        Due.is("broken(" + cloth + ", 4)", x.broken(cloth, 4), threes);
        Due.is("broken(" + cloth + ", 8)", x.broken(cloth, 8), frame);
    }

    private static void brokenTwos() {
        Due.sentence(12, "neighbours by loom, up to each edge", () -> twosAre('l', 1, ASIDE + BELOW));
        Due.sentence(12, "slants by loom, up to each edge", () -> twosAre('l', 2, CORNERS));
        Due.sentence(12, "neighbours by peyote, up to each edge", () -> twosAre('p', 1, ASIDE + BELOW + PEYOTE));
        Due.sentence(12, "slants by peyote, of one row too", () -> twosAre('p', 2, ASIDE + PEYOTE));
        Due.sentence(12, "neighbours by brick, up to each edge", () -> twosAre('b', 1, ASIDE + BELOW + BRICK));
        Due.sentence(12, "slants by brick, of one column too", () -> twosAre('b', 2, BELOW + BRICK));
        Due.sentence(12, "the smallest cloth in one colour", () -> {
            char[] stitches = {'l', 'p', 'b'};
            int[] slants = {0, 1, 0};
            for (int i = 0; i < 3; i++) {
                Beadslant x = Bench.stocked();
                Bench.plain(x, stitches[i], 2, 1, 0);
                brokenAre(x, 0, 1, slants[i], 0, 0);
            }
        });
        Due.sentence(12, "the largest cloth in one colour", () -> {
            char[] stitches = {'l', 'p', 'b'};
            int[] neighbours = {264, 264 + 121, 264 + 121};
            int[] slants = {242, 132 + 121, 132 + 121};
            for (int i = 0; i < 3; i++) {
                Beadslant x = Bench.stocked();
                Bench.plain(x, stitches[i], 12, 12, 0);
                brokenAre(x, 0, neighbours[i], slants[i], 120, 0);
            }
        });
    }

    /** Draws each two cells alone: they break the rule if they are among those told, and no others do. */
    private static void twosAre(char stitch, int rule, String told) {
        Beadslant x = Bench.stocked();
        x.addCloth(stitch, 3, 3);
        for (int one = 0; one < 9; one++) {
            x.draw(0, one / 3, one % 3, 1);
            for (int two = one + 1; two < 9; two++) {
                x.draw(0, two / 3, two % 3, 1);
                int want = told.contains(one + "" + two + " ") ? 1 : 0;
                Due.is("broken(0, " + rule + ") by cells " + one + " and " + two, x.broken(0, rule), want);
                x.draw(0, two / 3, two % 3, 2);
                Due.is("broken(0, " + rule + ") by two colours", x.broken(0, rule), 0);
                x.draw(0, two / 3, two % 3, -1);
            }
            x.draw(0, one / 3, one % 3, -1);
        }
    }

    private static void threesAre(String row, int want) {
        Beadslant x = ClothsTest.withKinds();
        ClothsTest.newCloth(x, 'l', row);
        Due.is("broken(0, 4) of " + row, x.broken(0, 4), want);
    }

    private static void brokenThrees() {
        Due.sentence(12, "three in a row, from two columns to twelve", () -> {
            threesAre("00", 0);
            threesAre("000", 1);
            threesAre("0000", 2);
            threesAre("000000000000", 10);
            threesAre("001001001001", 0);
            threesAre("00.00.000..0", 1);
            threesAre("000111222333", 4);
        });
        Due.sentence(12, "three at each end of a row", () -> {
            threesAre("000101010101", 1);
            threesAre("101010101000", 1);
        });
        Due.sentence(12, "three of one colour, of several kinds", () -> threesAre("040", 1));
        Due.sentence(12, "three do not go on in the next row, nor stand in a column", () -> {
            Beadslant x = Bench.stocked();
            ClothsTest.newCloth(x, 'l', "1200", "0021", "1200");
            Due.is("broken(0, 4) round the edge", x.broken(0, 4), 0);
            ClothsTest.newCloth(x, 'l', "01", "01", "01");
            Due.is("broken(1, 4) of columns", x.broken(1, 4), 0);
        });
    }

    private static void brokenFrame() {
        Due.sentence(12, "each cell of the first and last row and column", () -> {
            Beadslant x = Bench.stocked();
            Bench.plain(x, 'l', 4, 4, 0);
            for (int cell = 1; cell < 16; cell++) {
                boolean isInside = cell == 5 || cell == 6 || cell == 9 || cell == 10;
                x.draw(0, cell / 4, cell % 4, 1);
                Due.is("broken(0, 8) by cell " + cell, x.broken(0, 8), isInside ? 0 : 1);
                x.draw(0, cell / 4, cell % 4, -1);
                Due.is("broken(0, 8) by empty cell " + cell, x.broken(0, 8), 0);
                x.draw(0, cell / 4, cell % 4, 0);
            }
        });
        Due.sentence(12, "by 8 nothing is broken while the first cell is empty", () -> {
            Beadslant x = Bench.stocked();
            ClothsTest.newCloth(x, 'p', ".12", "301", "230");
            Due.is("broken(0, 8)", x.broken(0, 8), 0);
            x.draw(0, 0, 0, 0);
            Due.is("broken(0, 8) with a first cell", x.broken(0, 8), 6);
        });
        Due.sentence(12, "by 8 nothing is broken while the first cell is a gap", () -> {
            Beadslant x = Bench.inEachState();
            Due.is("broken, worked", x.broken(Bench.WORKED, 8), 2);
            Due.is("broken, the first cell being a gap", x.broken(Bench.GAPPED, 8), 0);
        });
        Due.sentence(12, "the frame of one row, and of two columns, is all of it", () -> {
            Beadslant x = Bench.stocked();
            ClothsTest.newCloth(x, 'l', "0111");
            Due.is("broken(0, 8)", x.broken(0, 8), 3);
            ClothsTest.newCloth(x, 'l', "01", "11", "11");
            Due.is("broken(1, 8)", x.broken(1, 8), 5);
        });
        Due.sentence(12, "the frame of the largest cloth", () -> {
            Beadslant x = Bench.stocked();
            Bench.plain(x, 'b', 12, 12, 0);
            x.draw(0, 0, 0, 1);
            Due.is("broken(0, 8)", x.broken(0, 8), 43);
        });
    }

    private static void waysArguments() {
        Due.sentence(13, "no such cloth", () -> {
            Beadslant x = Bench.stocked();
            Due.fails(x, "ways(0, 1) without cloths", X, () -> x.ways(0, 1));
            x.addCloth('l', 2, 1);
            Due.outside(x, "ways(#, 1)", 0, 0, X, v -> x.ways(v, 1));
        });
        Due.sentence(13, "1 to 4 kinds", () -> {
            Beadslant x = Bench.stocked();
            x.addKind(5, 8, 2, 0);
            x.addCloth('l', 2, 1);
            Due.outside(x, "ways(0, #)", 1, 4, A, v -> x.ways(0, v));
            Due.is("ways(0, 1)", x.ways(0, 1), 1);
            Due.is("ways(0, 4)", x.ways(0, 4), 16);
        });
        Due.sentence(13, "it is not drawn", () -> {
            Beadslant x = Bench.inEachState();
            for (int cloth = Bench.WORKED; cloth <= Bench.SOLD; cloth++) {
                int c = cloth;
                Due.fails(x, "ways(" + c + ", 1)", U, () -> x.ways(c, 1));
            }
            Due.is("ways of a drawn one", x.ways(Bench.DRAWN, 1), 1);
        });
        Due.sentence(13, "more than 6 cells are empty", () -> {
            Beadslant x = Bench.stocked();
            Bench.plain(x, 'l', 12, 12, 0);
            for (int column = 0; column < 6; column++) {
                x.draw(0, 11, 11 - column, -1);
            }
            Due.is("ways(0, 4) with 6 empty cells", x.ways(0, 4), 4096);
            x.draw(0, 0, 0, -1);
            Due.fails(x, "ways(0, 4) with 7 empty cells", U, () -> x.ways(0, 4));
            Due.fails(x, "ways(0, 1) with 7 empty cells", U, () -> x.ways(0, 1));
            x.addCloth('p', 12, 12);
            Due.fails(x, "ways(1, 1) with 144 empty cells", U, () -> x.ways(1, 1));
        });
        Due.sentence(13, "there are not as many kinds", () -> {
            Beadslant x = new Beadslant();
            x.addCloth('l', 2, 1);
            for (int there = 0; there <= 4; there++) {
                for (int kinds = 1; kinds <= 4; kinds++) {
                    int k = kinds;
                    if (kinds > there) {
                        Due.fails(x, "ways(0, " + kinds + ") of " + there, U, () -> x.ways(0, k));
                    } else {
                        Due.is("ways(0, " + kinds + ") of " + there, x.ways(0, kinds), kinds * kinds);
                    }
                }
                x.addKind(there, 8, 2, 0);
            }
        });
        Due.sentence(13, "there are not as many kinds, without an empty cell too", () -> {
            Beadslant x = Bench.ofOneKind(8, 2, 0, 0);
            Bench.plain(x, 'l', 2, 1, 0);
            Due.fails(x, "ways(0, 2)", U, () -> x.ways(0, 2));
            Due.is("ways(0, 1)", x.ways(0, 1), 1);
        });
    }

    private static void waysCounted() {
        Due.sentence(13, "of a cloth without empty cells 1 or 0, by each rule", () -> {
            Beadslant x = Bench.stocked();
            ClothsTest.newCloth(x, 'l', "000", "000");
            Due.is("ways(0, 2) without rules", x.ways(0, 2), 1);
            for (int rule = 1; rule < 8; rule *= 2) {
                x.setRules(0, rule);
                Due.is("ways(0, 2) by rule " + rule, x.ways(0, 2), 0);
            }
            x.setRules(0, 8);
            Due.is("ways(0, 2) by rule 8", x.ways(0, 2), 1);
            x.draw(0, 1, 2, 1);
            Due.is("ways(0, 2) by rule 8, the last cell breaking it", x.ways(0, 2), 0);
        });
        Due.sentence(13, "all kinds are tried, so many as told and no more", () -> {
            Beadslant x = Bench.stocked();
            ClothsTest.newCloth(x, 'l', "3.3");
            x.setRules(0, 1);
            for (int kinds = 1; kinds <= 4; kinds++) {
                Due.is("ways(0, " + kinds + ")", x.ways(0, kinds), Math.min(kinds, 3));
            }
        });
        Due.sentence(13, "each rule alone and all together, of an empty cloth", () -> {
            Beadslant x = Bench.stocked();
            x.addCloth('l', 3, 2);
            Due.is("ways(0, 4)", x.ways(0, 4), 4096);
            // Each column has two unlike colours, and the next one other ones above and below: 12, then 7 each.
            x.setRules(0, 1);
            Due.is("ways(0, 4) by rule 1", x.ways(0, 4), 12 * 7 * 7);
            // Slants tie the cells 0, 4, 2 and 3, 1, 5: the middle one differs from both others.
            x.setRules(0, 2);
            Due.is("ways(0, 4) by rule 2", x.ways(0, 4), 36 * 36);
            // Of 64 rows 4 are of one colour.
            x.setRules(0, 4);
            Due.is("ways(0, 4) by rule 4", x.ways(0, 4), 60 * 60);
            // Each cell is one of the edge.
            x.setRules(0, 8);
            Due.is("ways(0, 4) by rule 8", x.ways(0, 4), 4);
            x.setRules(0, 15);
            Due.is("ways(0, 4) by all rules", x.ways(0, 4), 0);
        });
        Due.sentence(13, "a new bead is the first, the second or the third of three, or of more", () -> {
            Beadslant x = Bench.stocked();
            x.addCloth('l', 7, 1);
            x.setRules(0, 4);
            String[] rows = {".001011", "0.01011", "00.1011", "110.001", "11000.1", "1100.01", "101100.", "1.01100",
                "00.0011", "1001.01", "10.0110"};
            for (String row : rows) {
                ClothsTest.drawRows(x, 0, row);
                String zero = row.replace('.', '0');
                String one = row.replace('.', '1');
                int want = (zero.contains("000") || zero.contains("111") ? 0 : 1)
                        + (one.contains("000") || one.contains("111") ? 0 : 1);
                Due.is("ways(0, 2) of " + row, x.ways(0, 2), want);
            }
        });
        Due.sentence(13, "by 8 the first cell is that of the others, of one or of many", () -> {
            Beadslant x = Bench.stocked();
            for (String rows : new String[] {".1", ".1/..", "../.1", ".1/11", ".11/121/111", "..1/1.1/11."}) {
                int cloth = ClothsTest.newCloth(x, 'l', rows.split("/"));
                x.setRules(cloth, 8);
                int inside = rows.equals("..1/1.1/11.") ? 3 : 1;
                Due.is("ways by rule 8 of " + rows, x.ways(cloth, 3), inside);
            }
        });
        Due.sentence(13, "by 8 no first cell suits two unlike others", () -> {
            Beadslant x = Bench.stocked();
            ClothsTest.newCloth(x, 'l', ".1", "21");
            x.setRules(0, 8);
            Due.is("ways(0, 4)", x.ways(0, 4), 0);
            Due.fails(x, "fill(0, 4)", N, () -> x.fill(0, 4));
        });
        Due.sentence(13, "what is drawn has to keep the rules too", () -> {
            Beadslant x = Bench.stocked();
            ClothsTest.newCloth(x, 'l', "00.1");
            x.setRules(0, 1);
            Due.is("ways(0, 4)", x.ways(0, 4), 0);
            x.draw(0, 0, 1, 2);
            Due.is("ways(0, 4)", x.ways(0, 4), 2);
        });
        Due.sentence(13, "the cells stay empty", () -> {
            Beadslant x = Bench.stocked();
            ClothsTest.newCloth(x, 'p', ".1.", "...");
            x.ways(0, 4);
            Due.isText("the cloth then", Bench.rows(x, 0, 3, 2), ".1./...");
        });
    }

    private static void fill() {
        fillArguments();
        Due.sentence(14, "how many were empty, none to 6", () -> {
            for (int empty = 0; empty <= 6; empty++) {
                Beadslant x = Bench.stocked();
                Bench.plain(x, 'l', 3, 2, 1);
                for (int cell = 0; cell < empty; cell++) {
                    x.draw(0, cell / 3, cell % 3, -1);
                }
                Due.is("fill(0, 1)", x.fill(0, 1), empty);
                String filled = "0".repeat(empty) + "1".repeat(6 - empty);
                Due.isText("the cloth then", Bench.rows(x, 0, 3, 2),
                        filled.substring(0, 3) + "/" + filled.substring(3));
            }
        });
        Due.sentence(14, "the first way, the lowest kind at the first cell, then at the next one", () -> {
            Beadslant x = Bench.stocked();
            x.addCloth('l', 3, 2);
            x.setRules(0, 1);
            Due.is("fill(0, 4)", x.fill(0, 4), 6);
            Due.isText("the cloth then", Bench.rows(x, 0, 3, 2), "010/101");
            ClothsTest.newCloth(x, 'l', "..", ".1", "10");
            x.setRules(1, 1);
            Due.is("fill(1, 3)", x.fill(1, 3), 3);
            Due.isText("the cloth then, the third cell deciding", Bench.rows(x, 1, 2, 3), "02/21/10");
        });
        Due.sentence(14, "the last way is found too", () -> {
            Beadslant x = Bench.stocked();
            ClothsTest.newCloth(x, 'l', "...333", "333333");
            x.setRules(0, 8);
            Due.is("fill(0, 4)", x.fill(0, 4), 3);
            Due.isText("the cloth then", Bench.rows(x, 0, 6, 2), "333333/333333");
        });
        Due.sentence(14, "there is no way", () -> {
            Beadslant x = Bench.stocked();
            ClothsTest.newCloth(x, 'l', "0.1", "...");
            x.setRules(0, 1);
            Due.fails(x, "fill(0, 2)", N, () -> x.fill(0, 2));
            Due.isText("the cloth then", Bench.rows(x, 0, 3, 2), "0.1/...");
            Due.is("fill(0, 3)", x.fill(0, 3), 4);
            Due.isText("the cloth then", Bench.rows(x, 0, 3, 2), "021/102");
        });
        Due.sentence(14, "there is no way for a full cloth that breaks a rule", () -> {
            Beadslant x = Bench.stocked();
            ClothsTest.newCloth(x, 'l', "00");
            Due.is("fill(0, 1) without rules", x.fill(0, 1), 0);
            x.setRules(0, 1);
            Due.fails(x, "fill(0, 4)", N, () -> x.fill(0, 4));
        });
    }

    private static void fillArguments() {
        Due.sentence(14, "no such cloth", () -> {
            Beadslant x = Bench.stocked();
            Due.fails(x, "fill(0, 1) without cloths", X, () -> x.fill(0, 1));
            x.addCloth('l', 2, 1);
            Due.outside(x, "fill(#, 1)", 0, 0, X, v -> x.fill(v, 1));
        });
        Due.sentence(14, "1 to 4 kinds", () -> {
            Beadslant x = Bench.stocked();
            x.addKind(5, 8, 2, 0);
            x.addCloth('l', 2, 1);
            Due.outside(x, "fill(0, #)", 1, 4, A, v -> x.fill(0, v));
            Due.is("fill(0, 4)", x.fill(0, 4), 2);
            x.draw(0, 0, 0, -1);
            Due.is("fill(0, 1)", x.fill(0, 1), 1);
        });
        Due.sentence(14, "it is not drawn", () -> {
            Beadslant x = Bench.inEachState();
            for (int cloth = Bench.WORKED; cloth <= Bench.SOLD; cloth++) {
                int c = cloth;
                Due.fails(x, "fill(" + c + ", 1)", U, () -> x.fill(c, 1));
            }
            Due.is("fill of a drawn one", x.fill(Bench.DRAWN, 1), 0);
        });
        Due.sentence(14, "more than 6 cells are empty", () -> {
            Beadslant x = Bench.stocked();
            ClothsTest.newCloth(x, 'b', ".......0");
            Due.fails(x, "fill(0, 1) with 7 empty cells", U, () -> x.fill(0, 1));
            x.draw(0, 0, 6, 0);
            Due.is("fill(0, 1) with 6 empty cells", x.fill(0, 1), 6);
        });
        Due.sentence(14, "there are not as many kinds", () -> {
            Beadslant x = new Beadslant();
            x.addCloth('l', 2, 1);
            Due.fails(x, "fill(0, 1) without kinds", U, () -> x.fill(0, 1));
            x.addKind(0, 8, 2, 0);
            Due.fails(x, "fill(0, 2) of one", U, () -> x.fill(0, 2));
            Due.is("fill(0, 1) of one", x.fill(0, 1), 2);
            Due.fails(x, "fill(0, 2) of one, nothing being empty", U, () -> x.fill(0, 2));
        });
    }

    private static void repeatIs(int want, String... rows) {
        Beadslant x = ClothsTest.withKinds();
        ClothsTest.newCloth(x, 'l', rows);
        Due.is("repeat(0) of " + String.join("/", rows), x.repeat(0), want);
    }

    private static void repeat() {
        Due.sentence(15, "no such cloth", () -> {
            Beadslant x = new Beadslant();
            Due.fails(x, "repeat(0) without cloths", X, () -> x.repeat(0));
            ClothsTest.newCloth(x, 'l', "..");
            Due.outside(x, "repeat(#)", 0, 0, X, v -> x.repeat(v));
        });
        Due.sentence(15, "a cell is empty, the first, the last or all", () -> {
            Beadslant x = Bench.stocked();
            ClothsTest.newCloth(x, 'l', ".0", "00");
            ClothsTest.newCloth(x, 'l', "00", "0.");
            ClothsTest.newCloth(x, 'l', "..", "..");
            for (int cloth = 0; cloth < 3; cloth++) {
                int c = cloth;
                Due.fails(x, "repeat(" + c + ")", U, () -> x.repeat(c));
            }
        });
        Due.sentence(15, "it has gaps", () -> {
            Beadslant x = Bench.inEachState();
            Due.fails(x, "repeat with gaps", U, () -> x.repeat(Bench.GAPPED));
            Due.is("repeat, drawn", x.repeat(Bench.DRAWN), 3);
            Due.is("repeat, worked", x.repeat(Bench.WORKED), 3);
            Due.is("repeat, sold", x.repeat(Bench.SOLD), 3);
            x.mend(Bench.GAPPED);
            Due.is("repeat, mended", x.repeat(Bench.GAPPED), 3);
        });
        Due.sentence(15, "from 1 to that of the columns if no lesser one does", () -> {
            repeatIs(1, "00");
            repeatIs(2, "01");
            repeatIs(1, "333333333333", "000000000000");
            repeatIs(11, "012301230120");
            repeatIs(12, "012301230121");
            repeatIs(6, "001122001122");
        });
        Due.sentence(15, "cells behind the last column ask nothing", () -> {
            repeatIs(2, "01010");
            repeatIs(3, "01201");
            repeatIs(4, "01230");
        });
        Due.sentence(15, "each row has to be like that", () -> {
            repeatIs(2, "0101", "2222", "3131");
            repeatIs(4, "0101", "2222", "0123");
            repeatIs(6, "010101", "012012");
        });
        Due.sentence(15, "colours repeat, not kinds", () -> repeatIs(1, "0440"));
    }

    private static void mirroredIs(boolean want, String... rows) {
        Beadslant x = ClothsTest.withKinds();
        ClothsTest.newCloth(x, 'b', rows);
        Due.is("isMirrored(0) of " + String.join("/", rows), x.isMirrored(0), want);
    }

    private static void isMirrored() {
        Due.sentence(16, "no such cloth", () -> {
            Beadslant x = new Beadslant();
            Due.fails(x, "isMirrored(0) without cloths", X, () -> x.isMirrored(0));
            ClothsTest.newCloth(x, 'l', "..");
            Due.outside(x, "isMirrored(#)", 0, 0, X, v -> x.isMirrored(v));
        });
        Due.sentence(16, "a cell is empty, the first, the middle, the last or all", () -> {
            Beadslant x = Bench.stocked();
            for (String row : new String[] {".00", "0.0", "00.", "..."}) {
                int cloth = ClothsTest.newCloth(x, 'l', "000", row);
                Due.fails(x, "isMirrored of " + row, U, () -> x.isMirrored(cloth));
            }
        });
        Due.sentence(16, "it has gaps", () -> {
            Beadslant x = Bench.inEachState();
            Due.fails(x, "isMirrored with gaps", U, () -> x.isMirrored(Bench.GAPPED));
            Due.is("isMirrored, drawn", x.isMirrored(Bench.DRAWN), false);
            Due.is("isMirrored, worked", x.isMirrored(Bench.WORKED), false);
            Due.is("isMirrored, sold", x.isMirrored(Bench.SOLD), false);
        });
        Due.sentence(16, "rows of two columns to twelve", () -> {
            mirroredIs(true, "00");
            mirroredIs(false, "01");
            mirroredIs(true, "010");
            mirroredIs(false, "001");
            mirroredIs(true, "012301103210");
            mirroredIs(false, "012301103211");
            mirroredIs(false, "012301203210");
        });
        Due.sentence(16, "each row, the first and the last too", () -> {
            mirroredIs(false, "01", "11", "22");
            mirroredIs(false, "11", "22", "01");
            mirroredIs(true, "11", "22", "33");
        });
        Due.sentence(16, "colours, not kinds", () -> mirroredIs(true, "014"));
    }
}
