import java.util.NoSuchElementException;

/** Promises 25 to 33: shapes with rounds, and the string. */
public final class StringTest {
    public static void main(String[] args) {
        addShapeAndRound();
        bend();
        form();
        string();
        stringIsBounded();
        breakBead();
        wrongAt();
        crochet();
        crochetByColour();
        Due.end();
    }

    private static int newShape(Beadslant x, int... rounds) {
        int shape = x.addShape();
        for (int beads : rounds) {
            x.addRound(shape, beads);
        }
        return shape;
    }

    private static void addShapeAndRound() {
        Beadslant x = new Beadslant();
        for (int shape = 0; shape < 4; shape++) {
            Due.is("addShape()", x.addShape(), shape);
        }
        Due.fails(x, "a fifth addShape()", IllegalStateException.class, () -> x.addShape());
        Due.is("addRound(0, 1)", x.addRound(0, 1), 1);
        Due.is("addRound(0, 199)", x.addRound(0, 199), 2);
        Due.is("addRound(3, 7)", x.addRound(3, 7), 1);
        for (int beads : new int[] {0, 200, -1, Integer.MAX_VALUE}) {
            Due.fails(x, "addRound(0, " + beads + ")", IllegalArgumentException.class, () -> x.addRound(0, beads));
        }
        Due.fails(x, "addRound(4, 0)", IndexOutOfBoundsException.class, () -> x.addRound(4, 0));
        Due.fails(x, "addRound(-1, 5)", IndexOutOfBoundsException.class, () -> x.addRound(-1, 5));
        for (int round = 3; round <= 20; round++) {
            Due.is("addRound(0, 6)", x.addRound(0, 6), round);
        }
        Due.fails(x, "addRound of a 21st", IllegalStateException.class, () -> x.addRound(0, 6));
        Due.fails(x, "addRound of a 21st, out of range", IllegalArgumentException.class, () -> x.addRound(0, 0));
        Due.is("bend(0, 19)", x.bend(0, 19), 6);
    }

    private static void bend() {
        Beadslant x = new Beadslant();
        newShape(x, 6, 12, 11, 199, 1);
        Due.is("bend(0, 1)", x.bend(0, 1), 0);
        Due.is("bend(0, 2)", x.bend(0, 2), 7);
        Due.is("bend(0, 3)", x.bend(0, 3), -182);
        Due.is("bend(0, 4)", x.bend(0, 4), 204);
        for (int round : new int[] {0, 5, 20, -1, Integer.MAX_VALUE, Integer.MIN_VALUE}) {
            Due.fails(x, "bend(0, " + round + ")", NoSuchElementException.class, () -> x.bend(0, round));
        }
        Due.fails(x, "bend(1, 0)", IndexOutOfBoundsException.class, () -> x.bend(1, 0));
        Due.fails(x, "bend(-1, 1)", IndexOutOfBoundsException.class, () -> x.bend(-1, 1));
    }

    private static void formIs(char want, int... rounds) {
        Beadslant x = new Beadslant();
        newShape(x, rounds);
        Due.is("form of " + java.util.Arrays.toString(rounds), x.form(0), want);
    }

    private static void form() {
        formIs('-');
        formIs('-', 6);
        formIs('t', 9, 9);
        formIs('t', 9, 9, 9);
        formIs('f', 6, 12, 18);
        formIs('c', 9, 9, 10);
        formIs('c', 6, 11, 16);
        formIs('c', 30, 20, 25);
        formIs('s', 6, 13, 20);
        formIs('s', 1, 199);
        formIs('-', 6, 12, 12);
        formIs('-', 6, 12, 17);
        formIs('-', 6, 12, 19);
        formIs('-', 6, 13, 19);
        formIs('-', 6, 6, 13);
        formIs('-', 1, 9, 9);
        Beadslant x = new Beadslant();
        Due.fails(x, "form(0)", IndexOutOfBoundsException.class, () -> x.form(0));
        x.addShape();
        Due.fails(x, "form(1)", IndexOutOfBoundsException.class, () -> x.form(1));
        Due.fails(x, "form(-1)", IndexOutOfBoundsException.class, () -> x.form(-1));
    }

    private static void string() {
        Beadslant x = new Beadslant();
        x.addKind(0, 8, 2, 0);
        x.addKind(1, 8, 2, 0);
        Due.fails(x, "string(0) without stock", UnsupportedOperationException.class, () -> x.string(0));
        x.buy(0, 2);
        x.buy(1, 1);
        Due.is("string(0)", x.string(0), 1);
        Due.is("string(1)", x.string(1), 2);
        Due.is("string(0)", x.string(0), 3);
        Due.is("stock(0)", x.stock(0), 0);
        Due.is("account('t')", x.account('t'), 3);
        Due.is("strung(0)", x.strung(0), 0);
        Due.is("strung(1)", x.strung(1), 1);
        Due.is("strung(2)", x.strung(2), 0);
        Due.fails(x, "string(0) without stock", UnsupportedOperationException.class, () -> x.string(0));
        Due.fails(x, "string(2)", IndexOutOfBoundsException.class, () -> x.string(2));
        Due.fails(x, "string(-1)", IndexOutOfBoundsException.class, () -> x.string(-1));
        for (int place : new int[] {-1, 3, 144, Integer.MAX_VALUE, Integer.MIN_VALUE}) {
            Due.fails(x, "strung(" + place + ")", NoSuchElementException.class, () -> x.strung(place));
            Due.fails(x, "breakBead(" + place + ")", NoSuchElementException.class, () -> x.breakBead(place));
        }
    }

    private static void stringIsBounded() {
        Beadslant x = new Beadslant();
        x.addKind(0, 8, 2, 0);
        x.addKind(1, 8, 2, 0);
        x.buy(0, 145);
        for (int bead = 1; bead <= 144; bead++) {
            Due.is("string(0)", x.string(0), bead);
        }
        Due.fails(x, "a 145th string(0)", IllegalStateException.class, () -> x.string(0));
        Due.fails(x, "a 145th string(1), without stock", UnsupportedOperationException.class, () -> x.string(1));
        Due.is("strung(143)", x.strung(143), 0);
        Due.is("breakBead(143)", x.breakBead(143), 143);
        Due.is("string(0)", x.string(0), 144);
    }

    private static void breakBead() {
        Beadslant x = new Beadslant();
        for (int kind = 0; kind < 5; kind++) {
            x.addKind(kind, 8, 2, 1);
            x.buy(kind, 1);
            x.string(kind);
        }
        Due.is("breakBead(1)", x.breakBead(1), 4);
        int[] want = {4, 2, 1, 0};
        for (int place = 0; place < 4; place++) {
            Due.is("strung behind a broken one", x.strung(place), want[place]);
        }
        Due.is("breakBead(3), the first one strung", x.breakBead(3), 3);
        Due.is("breakBead(0), the last one strung", x.breakBead(0), 2);
        Due.is("strung(0)", x.strung(0), 2);
        Due.is("strung(1)", x.strung(1), 1);
        Due.is("account('l')", x.account('l'), 3);
        Due.is("account('s')", x.account('s'), 0);
        Due.is("isSound()", x.isSound(), true);
        Due.fails(x, "strung(2)", NoSuchElementException.class, () -> x.strung(2));
    }

    private static void stringAll(Beadslant x, String kinds) {
        for (char kind : kinds.toCharArray()) {
            x.string(kind - '0');
        }
    }

    private static void wrongAt() {
        Beadslant x = PathsTest.rich();
        ClothsTest.newCloth(x, 'l', "012", "32.");
        Due.is("wrongAt(0) of no beads", x.wrongAt(0), 0);
        stringAll(x, "10");
        Due.is("wrongAt(0) of too few", x.wrongAt(0), 2);
        stringAll(x, "1");
        Due.is("wrongAt(0) of a wrong first bead", x.wrongAt(0), 0);
        x.breakBead(0);
        x.breakBead(0);
        x.breakBead(0);
        stringAll(x, "023210");
        Due.is("wrongAt(0) of an empty cell", x.wrongAt(0), 5);
        x.draw(0, 1, 2, 1);
        Due.is("wrongAt(0) of the last colour", x.wrongAt(0), 5);
        x.draw(0, 0, 1, -1);
        Due.is("wrongAt(0) of an empty cell", x.wrongAt(0), 1);
        ClothsTest.drawRows(x, 0, "012", "320");
        Due.fails(x, "wrongAt(0) of a right string", NoSuchElementException.class, () -> x.wrongAt(0));
        ClothsTest.newCloth(x, 'p', "01");
        Due.is("wrongAt(1) of too many", x.wrongAt(1), 2);
        x.work(1);
        Due.fails(x, "wrongAt(1) of a worked cloth", UnsupportedOperationException.class, () -> x.wrongAt(1));
        Due.fails(x, "crochet(1) of a worked cloth", UnsupportedOperationException.class, () -> x.crochet(1));
        Due.fails(x, "wrongAt(2)", IndexOutOfBoundsException.class, () -> x.wrongAt(2));
        Due.fails(x, "wrongAt(-1)", IndexOutOfBoundsException.class, () -> x.wrongAt(-1));
    }

    private static void crochet() {
        Beadslant x = PathsTest.rich();
        ClothsTest.newCloth(x, 'b', "01", "23");
        Due.fails(x, "crochet(0) without beads", UnsupportedOperationException.class, () -> x.crochet(0));
        stringAll(x, "0123");
        Due.fails(x, "crochet(0) in the order of the string", UnsupportedOperationException.class,
                () -> x.crochet(0));
        ClothsTest.drawRows(x, 0, "32", "10");
        int thread = x.thread(0);
        Due.is("crochet(0)", x.crochet(0), 4);
        ClothsTest.looks(x, 0, 2, 2, "32/10");
        Due.is("state(0)", x.state(0), 'w');
        Due.is("account('t')", x.account('t'), 0);
        Due.is("account('c')", x.account('c'), 4);
        Due.is("stock(0)", x.stock(0), 499);
        Due.is("thread(0)", x.thread(0), thread);
        Due.is("passes(0, 1, 1)", x.passes(0, 1, 1), 2);
        Due.is("isSound()", x.isSound(), true);
        Due.fails(x, "strung(0)", NoSuchElementException.class, () -> x.strung(0));
        stringAll(x, "0123");
        Due.fails(x, "crochet(0) of a worked cloth", UnsupportedOperationException.class, () -> x.crochet(0));
        for (int bead = 0; bead < 4; bead++) {
            x.breakBead(0);
        }
        stringAll(x, "00100");
        ClothsTest.newCloth(x, 'l', "00", "10");
        Due.fails(x, "crochet(1) of too many", UnsupportedOperationException.class, () -> x.crochet(1));
        Due.fails(x, "crochet(2)", IndexOutOfBoundsException.class, () -> x.crochet(2));
        Due.fails(x, "crochet(-1)", IndexOutOfBoundsException.class, () -> x.crochet(-1));
    }

    private static void crochetByColour() {
        Beadslant x = new Beadslant();
        x.addKind(3, 8, 2, 1);
        x.addKind(3, 9, 2, 5);
        x.buy(1, 2);
        x.addCloth('p', 2, 1);
        ClothsTest.drawRows(x, 0, "00");
        stringAll(x, "11");
        Due.is("crochet(0) of another kind of the colour", x.crochet(0), 2);
        ClothsTest.looks(x, 0, 2, 1, "11");
        Due.is("passes(0, 0, 1)", x.passes(0, 0, 1), 2);
        Due.is("sell(0)", x.sell(0), 20);
    }
}
