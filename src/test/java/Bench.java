/** Workshops to begin a test with, and cloths told by rows of digits. */
final class Bench {
    /** The cloths of inEachState. */
    static final int DRAWN = 0;
    static final int WORKED = 1;
    static final int GAPPED = 2;
    static final int SOLD = 3;

    private Bench() {
    }

    /** Kinds 0 to 3 of the colours 0 to 3, of width 10, hole 9 and price 1, each with 900 beads, and 9999 of thread. */
    static Beadslant stocked() {
        Beadslant x = new Beadslant();
        for (int kind = 0; kind < 4; kind++) {
            x.addKind(kind, 10, 9, 1);
            x.buy(kind, 900);
        }
        x.thread(9999);
        return x;
    }

    /** One kind of this width and hole, with so many beads and so much thread. */
    static Beadslant ofOneKind(int width, int hole, int beads, int thread) {
        Beadslant x = new Beadslant();
        x.addKind(0, width, hole, 1);
        for (int rest = beads; rest > 0; rest -= 999) {
            x.buy(0, Math.min(rest, 999));
        }
        for (int rest = thread; rest > 0; rest -= 9999) {
            x.thread(Math.min(rest, 9999));
        }
        return x;
    }

    /** A cloth whose cells all have a kind. */
    static int plain(Beadslant x, char stitch, int columns, int rows, int kind) {
        int cloth = x.addCloth(stitch, columns, rows);
        x.draw(cloth, 0, 0, kind);
        x.motif(cloth, 1, 1, 0);
        return cloth;
    }

    /** Cloths 0 to 3, of 3 columns and 1 row by brick, drawn, worked, with a gap at the first cell, and sold. */
    static Beadslant inEachState() {
        Beadslant x = stocked();
        for (int cloth = 0; cloth < 4; cloth++) {
            ClothsTest.newCloth(x, 'b', "012");
        }
        for (int cloth = WORKED; cloth <= SOLD; cloth++) {
            x.work(cloth);
        }
        x.snap(GAPPED, 0);
        x.sell(SOLD);
        return x;
    }

    /** Strings beads of a kind. */
    static void strings(Beadslant x, int kind, int many) {
        for (int bead = 0; bead < many; bead++) {
            x.string(kind);
        }
    }

    static String rows(Beadslant x, int cloth, int columns, int rows) {
        return ClothsTest.rowsOf(x, cloth, columns, rows);
    }
}
