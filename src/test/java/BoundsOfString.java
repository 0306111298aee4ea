import java.util.NoSuchElementException;

/** Each sentence of promises 25 to 33 that names a bound. */
final class BoundsOfString {
    private static final Class<IndexOutOfBoundsException> X = IndexOutOfBoundsException.class;
    private static final Class<IllegalArgumentException> A = IllegalArgumentException.class;
    private static final Class<IllegalStateException> S = IllegalStateException.class;
    private static final Class<UnsupportedOperationException> U = UnsupportedOperationException.class;
    private static final Class<NoSuchElementException> N = NoSuchElementException.class;

    private BoundsOfString() {
    }

    static void all() {
        addShape();
        addRound();
        bend();
        form();
        string();
        strung();
        breakBead();
        wrongAtRefused();
        wrongAt();
        crochetRefused();
        crochet();
    }

    private static Beadslant shaped(int... rounds) {
        Beadslant x = new Beadslant();
        x.addShape();
        for (int beads : rounds) {
            x.addRound(0, beads);
        }
        return x;
    }

    private static void addShape() {
        Due.sentence(25, "shapes are numbered from 0, at most 4", () -> {
            Beadslant x = new Beadslant();
            for (int shape = 0; shape < 4; shape++) {
                Due.is("addShape()", x.addShape(), shape);
            }
            Due.fails(x, "addShape() of a fifth one", S, () -> x.addShape());
            Due.fails(x, "form(4)", X, () -> x.form(4));
            Due.is("form(3)", x.form(3), '-');
        });
        Due.sentence(25, "without rounds", () -> {
            Beadslant x = new Beadslant();
            x.addShape();
            Due.is("addRound(0, 1)", x.addRound(0, 1), 1);
            x.addShape();
            Due.is("addRound(1, 1), each shape having its own", x.addRound(1, 1), 1);
        });
    }

    private static void addRound() {
        Due.sentence(26, "no such shape", () -> {
            Beadslant x = new Beadslant();
            Due.fails(x, "addRound(0, 1) without shapes", X, () -> x.addRound(0, 1));
            x.addShape();
            Due.outside(x, "addRound(#, 1) of one", 0, 0, X, v -> x.addRound(v, 1));
            for (int shape = 1; shape < 4; shape++) {
                x.addShape();
            }
            Due.outside(x, "addRound(#, 1) of four", 0, 3, X, v -> x.addRound(v, 1));
            Due.is("addRound(3, 1)", x.addRound(3, 1), 1);
        });
        Due.sentence(26, "a round is of 1 to 199 beads", () -> {
            Beadslant x = shaped();
            Due.outside(x, "addRound(0, #)", 1, 199, A, v -> x.addRound(0, v));
            Due.is("addRound(0, 1)", x.addRound(0, 1), 1);
            Due.is("addRound(0, 199)", x.addRound(0, 199), 2);
        });
        Due.sentence(26, "20 rounds at most", () -> {
            Beadslant x = shaped();
            x.addShape();
            for (int round = 1; round <= 20; round++) {
                Due.is("addRound(0, 5)", x.addRound(0, 5), round);
            }
            Due.fails(x, "addRound of a 21st", S, () -> x.addRound(0, 5));
            Due.fails(x, "bend(0, 20)", N, () -> x.bend(0, 20));
            Due.is("bend(0, 19)", x.bend(0, 19), 6);
            Due.is("form(0) of 20 rounds", x.form(0), 't');
            Due.is("addRound(1, 5), the other shape having room", x.addRound(1, 5), 1);
        });
    }

    private static void bend() {
        Due.sentence(27, "no such shape", () -> {
            Beadslant x = new Beadslant();
            Due.fails(x, "bend(0, 1) without shapes", X, () -> x.bend(0, 1));
            Beadslant y = shaped(6, 6);
            Due.outside(y, "bend(#, 1)", 0, 0, X, v -> y.bend(v, 1));
        });
        Due.sentence(27, "no such round, or it is the first one", () -> {
            Beadslant none = shaped();
            Due.outside(none, "bend(0, #) without rounds", 1, 0, N, v -> none.bend(0, v));
            Beadslant one = shaped(6);
            Due.outside(one, "bend(0, #) of one round", 1, 0, N, v -> one.bend(0, v));
            Beadslant three = shaped(6, 7, 8);
            Due.outside(three, "bend(0, #) of three rounds", 1, 2, N, v -> three.bend(0, v));
            Due.is("bend(0, 1)", three.bend(0, 1), 5);
            Due.is("bend(0, 2)", three.bend(0, 2), 5);
        });
        Due.sentence(27, "6 less the beads that it has more, or and those that it has fewer", () -> {
            Beadslant x = shaped(1, 199, 1, 1, 2, 1, 7, 14, 8);
            int[] want = {0, 6 - 198, 6 + 198, 6, 5, 7, 0, -1, 12};
            for (int round = 1; round < want.length; round++) {
                Due.is("bend(0, " + round + ")", x.bend(0, round), want[round]);
            }
        });
    }

    private static void formIs(char want, int... rounds) {
        Due.is("form of " + java.util.Arrays.toString(rounds), shaped(rounds).form(0), want);
    }

    private static void form() {
        Due.sentence(28, "no such shape", () -> {
            Beadslant x = new Beadslant();
            Due.fails(x, "form(0) without shapes", X, () -> x.form(0));
            x.addShape();
            Due.outside(x, "form(#)", 0, 0, X, v -> x.form(v));
        });
        Due.sentence(28, "with fewer than two rounds '-'", () -> {
            formIs('-');
            formIs('-', 1);
            formIs('-', 199);
        });
        Due.sentence(28, "'t' if each bends by 6", () -> {
            formIs('t', 1, 1);
            formIs('t', 199, 199, 199);
        });
        Due.sentence(28, "'f' if each bends by 0", () -> {
            formIs('f', 1, 7);
            formIs('f', 1, 7, 13, 19);
        });
        Due.sentence(28, "'c' if each bends by more than 0", () -> {
            formIs('c', 1, 6);
            formIs('c', 199, 1);
            formIs('c', 10, 9);
            formIs('c', 10, 11);
            formIs('c', 10, 10, 11);
            formIs('c', 10, 15, 15);
        });
        Due.sentence(28, "'s' if each bends by less than 0", () -> {
            formIs('s', 1, 8);
            formIs('s', 1, 199);
            formIs('s', 1, 8, 199);
        });
        Due.sentence(28, "otherwise '-', by the first, a middle or the last round alone", () -> {
            formIs('-', 1, 7, 7);
            formIs('-', 1, 1, 7);
            formIs('-', 1, 8, 8);
            formIs('-', 1, 7, 14);
            formIs('-', 1, 8, 14);
            formIs('-', 10, 10, 17, 17);
            formIs('-', 10, 17, 17, 24);
            formIs('-', 10, 11, 17, 18);
        });
    }

    private static void string() {
        Due.sentence(29, "no such kind", () -> {
            Beadslant x = new Beadslant();
            Due.fails(x, "string(0) without kinds", X, () -> x.string(0));
            x.addKind(0, 8, 2, 0);
            x.buy(0, 5);
            Due.outside(x, "string(#)", 0, 0, X, v -> x.string(v));
            for (int kind = 1; kind < 8; kind++) {
                x.addKind(0, 8, 2, 0);
            }
            x.buy(7, 1);
            Due.outside(x, "string(#) of eight", 0, 7, X, v -> x.string(v));
            Due.is("string(7)", x.string(7), 1);
        });
        Due.sentence(29, "none is in stock", () -> {
            Beadslant x = Bench.ofOneKind(8, 2, 0, 0);
            Due.fails(x, "string(0)", U, () -> x.string(0));
            x.buy(0, 1);
            Due.is("string(0)", x.string(0), 1);
            Due.fails(x, "string(0) behind the last one", U, () -> x.string(0));
        });
        Due.sentence(29, "at most 144", () -> {
            Beadslant x = Bench.ofOneKind(8, 2, 999, 0);
            for (int bead = 1; bead <= 144; bead++) {
                Due.is("string(0)", x.string(0), bead);
            }
            Due.fails(x, "string(0) of a 145th", S, () -> x.string(0));
            Due.is("stock(0)", x.stock(0), 999 - 144);
            Due.is("account('t')", x.account('t'), 144);
            x.breakBead(143);
            Due.is("string(0) in the room of a broken one", x.string(0), 144);
        });
    }

    private static void strung() {
        Due.sentence(30, "no such place", () -> {
            Beadslant x = Bench.ofOneKind(8, 2, 999, 0);
            Due.outside(x, "strung(#) of an empty string", 0, -1, N, v -> x.strung(v));
            x.string(0);
            Due.outside(x, "strung(#) of one bead", 0, 0, N, v -> x.strung(v));
            Bench.strings(x, 0, 143);
            Due.outside(x, "strung(#) of 144 beads", 0, 143, N, v -> x.strung(v));
        });
        Due.sentence(30, "0 for the one strung last, the greatest place for that strung first", () -> {
            Beadslant x = Bench.stocked();
            x.string(1);
            Due.is("strung(0) of one bead", x.strung(0), 1);
            Bench.strings(x, 2, 142);
            x.string(3);
            Due.is("strung(0)", x.strung(0), 3);
            Due.is("strung(1)", x.strung(1), 2);
            Due.is("strung(142)", x.strung(142), 2);
            Due.is("strung(143)", x.strung(143), 1);
        });
        Due.sentence(30, "none behind a crocheted string", () -> {
            Beadslant x = Bench.stocked();
            Bench.plain(x, 'l', 2, 1, 0);
            Bench.strings(x, 0, 2);
            x.crochet(0);
            Due.fails(x, "strung(0)", N, () -> x.strung(0));
        });
    }

    private static void breakBead() {
        Due.sentence(31, "no such place", () -> {
            Beadslant x = Bench.ofOneKind(8, 2, 999, 0);
            Due.outside(x, "breakBead(#) of an empty string", 0, -1, N, v -> x.breakBead(v));
            x.string(0);
            Due.outside(x, "breakBead(#) of one bead", 0, 0, N, v -> x.breakBead(v));
            Bench.strings(x, 0, 143);
            Due.outside(x, "breakBead(#) of 144 beads", 0, 143, N, v -> x.breakBead(v));
        });
        Due.sentence(31, "how many are strung then, to none", () -> {
            Beadslant x = Bench.ofOneKind(8, 2, 144, 0);
            Bench.strings(x, 0, 144);
            for (int left = 143; left >= 0; left--) {
                Due.is("breakBead", x.breakBead(left % 2 == 0 ? 0 : left), left);
                Due.is("account('l')", x.account('l'), 144 - left);
            }
            Due.fails(x, "breakBead(0) of none", N, () -> x.breakBead(0));
            Due.is("stock(0), a broken bead being lost", x.stock(0), 0);
        });
        Due.sentence(31, "the beads of a full string move up to its end", () -> {
            for (int place : new int[] {1, 70, 143}) {
                Beadslant x = Bench.stocked();
                Bench.strings(x, 1, 142);
                x.string(2);
                x.string(3);
                Due.is("breakBead(" + place + ")", x.breakBead(place), 143);
                Due.is("strung(0)", x.strung(0), 3);
                Due.is("strung(1)", x.strung(1), place == 1 ? 1 : 2);
                Due.is("strung(142)", x.strung(142), 1);
            }
        });
        Due.sentence(31, "the first place, one between and the last", () -> {
            String[] want = {"012", "013", "023", "123"};
            for (int place = 0; place < 4; place++) {
                Beadslant x = Bench.stocked();
                for (int kind = 0; kind < 4; kind++) {
                    x.string(kind);
                }
                Due.is("breakBead(" + place + ")", x.breakBead(place), 3);
                String left = "" + x.strung(2) + x.strung(1) + x.strung(0);
                Due.isText("the string behind breakBead(" + place + ")", left, want[place]);
            }
        });
    }

    private static void wrongAtRefused() {
        Due.sentence(32, "no such cloth", () -> {
            Beadslant x = new Beadslant();
            Due.fails(x, "wrongAt(0) without cloths", X, () -> x.wrongAt(0));
            x.addCloth('l', 2, 1);
            Due.outside(x, "wrongAt(#)", 0, 0, X, v -> x.wrongAt(v));
        });
        Due.sentence(32, "it is not drawn", () -> {
            Beadslant x = Bench.inEachState();
            for (int cloth = Bench.WORKED; cloth <= Bench.SOLD; cloth++) {
                int c = cloth;
                Due.fails(x, "wrongAt(" + c + ")", U, () -> x.wrongAt(c));
            }
            Due.is("wrongAt of a drawn one", x.wrongAt(Bench.DRAWN), 0);
        });
        Due.sentence(32, "the string is not wrong, of the smallest and the largest cloth", () -> {
            Beadslant x = Bench.stocked();
            Bench.plain(x, 'p', 2, 1, 1);
            Bench.plain(x, 'b', 12, 12, 1);
            Bench.strings(x, 1, 2);
            Due.fails(x, "wrongAt(0)", N, () -> x.wrongAt(0));
            Due.is("wrongAt(1)", x.wrongAt(1), 2);
            Bench.strings(x, 1, 142);
            Due.fails(x, "wrongAt(1)", N, () -> x.wrongAt(1));
            Due.is("wrongAt(0)", x.wrongAt(0), 2);
        });
    }

    private static Beadslant withString(String beads, String... rows) {
        Beadslant x = Bench.stocked();
        x.addKind(0, 8, 2, 0);
        x.buy(4, 99);
        ClothsTest.newCloth(x, 'l', rows);
        for (int i = beads.length() - 1; i >= 0; i--) {
            x.string(beads.charAt(i) - '0');
        }
        return x;
    }

    private static void wrongIs(int want, String beads, String... rows) {
        Beadslant x = withString(beads, rows);
        Due.is("wrongAt(0) of " + beads + " for " + String.join("/", rows), x.wrongAt(0), want);
        Due.fails(x, "crochet(0) of " + beads + " for " + String.join("/", rows), U, () -> x.crochet(0));
    }

    private static void wrongAt() {
        Due.sentence(32, "at the first cell whose colour is not that of the bead", () -> {
            wrongIs(0, "112301", "012", "301");
            wrongIs(2, "010301", "012", "301");
            wrongIs(3, "012001", "012", "301");
            wrongIs(5, "012300", "012", "301");
            wrongIs(0, "333333", "012", "201");
        });
        Due.sentence(32, "an empty cell being wrong", () -> {
            wrongIs(0, "012301", ".12", "301");
            wrongIs(4, "012301", "012", "3.1");
            wrongIs(5, "012301", "012", "30.");
            wrongIs(0, "012301", "...", "...");
        });
        Due.sentence(32, "at the number of its beads if it is too short", () -> {
            wrongIs(0, "", "012", "301");
            wrongIs(1, "0", "012", "301");
            wrongIs(5, "01230", "012", "301");
            wrongIs(5, "01230", "012", "30.");
        });
        Due.sentence(32, "at the number of cells if it is too long", () -> {
            wrongIs(6, "0123010", "012", "301");
            wrongIs(2, "0123", "01");
        });
        Due.sentence(32, "too short or too long, the first cell that is wrong comes first", () -> {
            wrongIs(1, "00", "012", "301");
            wrongIs(2, "01", "01.", "301");
            wrongIs(1, "0023", "01");
            wrongIs(1, "0123", "0.");
        });
        Due.sentence(32, "too long by all 144", () -> {
            Beadslant x = Bench.stocked();
            Bench.plain(x, 'l', 2, 1, 0);
            Bench.strings(x, 0, 144);
            Due.is("wrongAt(0)", x.wrongAt(0), 2);
        });
        Due.sentence(32, "a kind of one colour is not wrong", () -> {
            Beadslant x = withString("4104", "0140");
            Due.fails(x, "wrongAt(0)", N, () -> x.wrongAt(0));
        });
        Due.sentence(32, "the last one strung comes into the first cell", () -> {
            Beadslant x = Bench.stocked();
            ClothsTest.newCloth(x, 'l', "012");
            x.string(2);
            x.string(1);
            Due.is("wrongAt(0)", x.wrongAt(0), 0);
            x.string(0);
            Due.fails(x, "wrongAt(0)", N, () -> x.wrongAt(0));
        });
    }

    private static void crochetRefused() {
        Due.sentence(33, "no such cloth", () -> {
            Beadslant x = new Beadslant();
            Due.fails(x, "crochet(0) without cloths", X, () -> x.crochet(0));
            Beadslant y = withString("01", "01");
            Due.outside(y, "crochet(#)", 0, 0, X, v -> y.crochet(v));
        });
        Due.sentence(33, "it is not drawn", () -> {
            Beadslant x = Bench.inEachState();
            x.string(2);
            x.string(1);
            x.string(0);
            for (int cloth = Bench.WORKED; cloth <= Bench.SOLD; cloth++) {
                int c = cloth;
                Due.fails(x, "crochet(" + c + ") of its very beads", U, () -> x.crochet(c));
            }
            Due.is("crochet of a drawn one", x.crochet(Bench.DRAWN), 3);
        });
        Due.sentence(33, "the string is wrong, of an empty cloth and string too", () -> {
            Beadslant x = new Beadslant();
            x.addCloth('l', 2, 1);
            Due.fails(x, "crochet(0)", U, () -> x.crochet(0));
        });
    }

    private static void crochet() {
        Due.sentence(33, "how many beads, from 2 to 144", () -> {
            Beadslant x = Bench.ofOneKind(8, 2, 999, 0);
            Bench.plain(x, 'l', 2, 1, 0);
            Bench.plain(x, 'p', 12, 12, 0);
            Bench.strings(x, 0, 2);
            Due.is("crochet(0)", x.crochet(0), 2);
            Bench.strings(x, 0, 144);
            Due.is("crochet(1)", x.crochet(1), 144);
            Due.is("account('t'), the string being empty", x.account('t'), 0);
            Due.is("account('c')", x.account('c'), 146);
            Due.is("stock(0)", x.stock(0), 999 - 146);
            Due.is("state(1)", x.state(1), 'w');
        });
        Due.sentence(33, "without thread, and with holes of 2", () -> {
            Beadslant x = Bench.ofOneKind(30, 2, 2, 0);
            Bench.plain(x, 'b', 2, 1, 0);
            Bench.strings(x, 0, 2);
            Due.is("crochet(0)", x.crochet(0), 2);
            Due.is("thread(0)", x.thread(0), 0);
            Due.is("isSound()", x.isSound(), true);
        });
        Due.sentence(33, "each passed twice, by peyote too", () -> {
            Beadslant x = Bench.ofOneKind(8, 2, 6, 0);
            Bench.plain(x, 'p', 3, 2, 0);
            Bench.strings(x, 0, 6);
            x.crochet(0);
            for (int cell = 0; cell < 6; cell++) {
                Due.is("passes of " + cell, x.passes(0, cell / 3, cell % 3), 2);
            }
        });
        Due.sentence(33, "its path being that of its stitch", () -> {
            Beadslant x = Bench.ofOneKind(8, 2, 3, 0);
            Bench.plain(x, 'p', 3, 1, 0);
            Bench.strings(x, 0, 3);
            x.crochet(0);
            Due.is("pathLength(0)", x.pathLength(0), 4);
            Due.is("snap(0, 0), the last bead being passed once in the path", x.snap(0, 0), 2);
            Due.isText("the cloth then", Bench.rows(x, 0, 3, 1), "0..");
        });
        Due.sentence(33, "the cells have the kinds of its beads then", () -> {
            Beadslant x = withString("4104", "0140");
            Due.is("crochet(0)", x.crochet(0), 4);
            Due.isText("the cloth then", Bench.rows(x, 0, 4, 1), "4104");
        });
    }
}
