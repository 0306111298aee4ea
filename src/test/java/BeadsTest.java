/** Promises 1 to 5: a new object, kinds, stock and thread. */
public final class BeadsTest {
    public static void main(String[] args) {
        newObject();
        addKind();
        buyAndStock();
        stockIsBounded();
        thread();
        Due.end();
    }

    private static void newObject() {
        Beadslant x = new Beadslant();
        Due.is("checksum() of a new object", x.checksum(), (7L * 31 + 0) * 31 + 0);
        Due.is("money() of a new object", x.money(), 0);
        Due.is("thread(0) of a new object", x.thread(0), 0);
        for (char kind : "bstcxl".toCharArray()) {
            Due.is("account of a new object", x.account(kind), 0);
        }
        Due.is("isSound() of a new object", x.isSound(), true);
        Due.fails(x, "stock(0) of a new object", IndexOutOfBoundsException.class, () -> x.stock(0));
        Due.fails(x, "state(0) of a new object", IndexOutOfBoundsException.class, () -> x.state(0));
        Due.fails(x, "form(0) of a new object", IndexOutOfBoundsException.class, () -> x.form(0));
    }

    private static void addKind() {
        Beadslant x = new Beadslant();
        Due.is("addKind(0, 8, 2, 0)", x.addKind(0, 8, 2, 0), 0);
        Due.is("addKind(7, 30, 9, 99)", x.addKind(7, 30, 9, 99), 1);
        int[][] wrong = {{-1, 8, 2, 0}, {8, 8, 2, 0}, {0, 7, 2, 0}, {0, 31, 2, 0}, {0, 8, 1, 0}, {0, 8, 10, 0},
            {0, 8, 2, -1}, {0, 8, 2, 100}, {Integer.MIN_VALUE, Integer.MAX_VALUE, 2, 0}};
        for (int[] w : wrong) {
            Due.fails(x, "addKind(" + w[0] + ", " + w[1] + ", " + w[2] + ", " + w[3] + ")",
                    IllegalArgumentException.class, () -> x.addKind(w[0], w[1], w[2], w[3]));
        }
        for (int kind = 2; kind < 8; kind++) {
            Due.is("addKind, of one colour with others", x.addKind(3, 10, 4, 2), kind);
        }
        Due.fails(x, "a ninth addKind", IllegalStateException.class, () -> x.addKind(0, 8, 2, 0));
        Due.fails(x, "a ninth addKind out of range", IllegalArgumentException.class, () -> x.addKind(8, 8, 2, 0));
    }

    private static void buyAndStock() {
        Beadslant x = new Beadslant();
        x.addKind(0, 8, 2, 7);
        x.addKind(1, 8, 2, 0);
        Due.is("stock(0)", x.stock(0), 0);
        Due.is("buy(0, 1)", x.buy(0, 1), 1);
        Due.is("buy(0, 999)", x.buy(0, 999), 1000);
        Due.is("stock(0)", x.stock(0), 1000);
        Due.is("stock(1)", x.stock(1), 0);
        Due.is("buy(1, 5)", x.buy(1, 5), 5);
        Due.is("money()", x.money(), -7000);
        Due.is("account('b')", x.account('b'), 1005);
        Due.fails(x, "buy(2, 1)", IndexOutOfBoundsException.class, () -> x.buy(2, 1));
        Due.fails(x, "buy(-1, 0)", IndexOutOfBoundsException.class, () -> x.buy(-1, 0));
        Due.fails(x, "buy(8, 1)", IndexOutOfBoundsException.class, () -> x.buy(8, 1));
        Due.fails(x, "buy(0, 0)", IllegalArgumentException.class, () -> x.buy(0, 0));
        Due.fails(x, "buy(0, 1000)", IllegalArgumentException.class, () -> x.buy(0, 1000));
        Due.fails(x, "buy(0, -5)", IllegalArgumentException.class, () -> x.buy(0, -5));
        Due.fails(x, "stock(2)", IndexOutOfBoundsException.class, () -> x.stock(2));
        Due.fails(x, "stock(-1)", IndexOutOfBoundsException.class, () -> x.stock(-1));
        Due.fails(x, "stock(MAX)", IndexOutOfBoundsException.class, () -> x.stock(Integer.MAX_VALUE));
    }

    private static void stockIsBounded() {
        Beadslant x = new Beadslant();
        x.addKind(0, 8, 2, 1);
        x.addKind(0, 8, 2, 1);
        for (int i = 0; i < 100; i++) {
            x.buy(0, 999);
        }
        Due.is("buy(0, 98)", x.buy(0, 98), 99998);
        Due.fails(x, "buy(0, 2)", IllegalStateException.class, () -> x.buy(0, 2));
        Due.fails(x, "buy(0, 1000) of a full stock", IllegalArgumentException.class, () -> x.buy(0, 1000));
        Due.is("buy(0, 1)", x.buy(0, 1), 99999);
        Due.fails(x, "buy(0, 1)", IllegalStateException.class, () -> x.buy(0, 1));
        Due.is("buy(1, 1), the bound being one of each kind", x.buy(1, 1), 1);
        Due.is("string(0)", x.string(0), 1);
        Due.is("buy(0, 1), the bound being one of beads in stock", x.buy(0, 1), 99999);
    }

    private static void thread() {
        Beadslant x = new Beadslant();
        Due.is("thread(0)", x.thread(0), 0);
        Due.is("thread(9999)", x.thread(9999), 9999);
        Due.is("thread(1)", x.thread(1), 10000);
        Due.is("money(), thread costing nothing", x.money(), 0);
        Due.fails(x, "thread(-1)", IllegalArgumentException.class, () -> x.thread(-1));
        Due.fails(x, "thread(10000)", IllegalArgumentException.class, () -> x.thread(10000));
        for (int i = 0; i < 99; i++) {
            x.thread(9999);
        }
        Due.is("thread(98)", x.thread(98), 999999);
        Due.is("thread(0) at the bound", x.thread(0), 999999);
        Due.fails(x, "thread(1) at the bound", IllegalStateException.class, () -> x.thread(1));
        Due.fails(x, "thread(10000) at the bound", IllegalArgumentException.class, () -> x.thread(10000));
    }
}
