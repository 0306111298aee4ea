/** Each sentence of promises 1 to 5 that names a bound. */
final class BoundsOfBeads {
    private static final Class<IndexOutOfBoundsException> X = IndexOutOfBoundsException.class;
    private static final Class<IllegalArgumentException> A = IllegalArgumentException.class;
    private static final Class<IllegalStateException> S = IllegalStateException.class;

    private BoundsOfBeads() {
    }

    static void all() {
        newObject();
        addKind();
        buy();
        stock();
        thread();
    }

    private static void newObject() {
        Due.sentence(1, "without kinds", () -> {
            Beadslant x = new Beadslant();
            Due.fails(x, "stock(0)", X, () -> x.stock(0));
            Due.is("addKind", x.addKind(0, 8, 2, 0), 0);
        });
        Due.sentence(1, "without cloths", () -> {
            Beadslant x = new Beadslant();
            Due.fails(x, "state(0)", X, () -> x.state(0));
            Due.is("addCloth", x.addCloth('l', 2, 1), 0);
        });
        Due.sentence(1, "without shapes", () -> {
            Beadslant x = new Beadslant();
            Due.fails(x, "form(0)", X, () -> x.form(0));
            Due.is("addShape", x.addShape(), 0);
        });
        Due.sentence(1, "without thread", () -> Due.is("thread(0)", new Beadslant().thread(0), 0));
        Due.sentence(1, "without a string", () -> {
            Beadslant x = new Beadslant();
            Due.fails(x, "strung(0)", java.util.NoSuchElementException.class, () -> x.strung(0));
        });
        Due.sentence(1, "nothing is shared with another object that is full", () -> {
            Beadslant other = Bench.inEachState();
            Bench.strings(other, 0, 144);
            other.addShape();
            other.setWord(0, 0, 9);
            Beadslant x = new Beadslant();
            Due.isText("what is seen of it", Sight.of(x), Sight.of(new Beadslant()));
            Due.is("checksum()", x.checksum(), 7 * 31 * 31);
            Due.is("money()", x.money(), 0);
        });
    }

    private static void addKind() {
        Due.sentence(2, "a colour is 0 to 7", () -> {
            Beadslant x = new Beadslant();
            Due.outside(x, "addKind(#, 8, 2, 0)", 0, 7, A, v -> x.addKind(v, 8, 2, 0));
            Due.is("addKind of colour 0", x.addKind(0, 8, 2, 0), 0);
            Due.is("addKind of colour 7", x.addKind(7, 8, 2, 0), 1);
        });
        Due.sentence(2, "a width is 8 to 30", () -> {
            Beadslant x = new Beadslant();
            Due.outside(x, "addKind(0, #, 2, 0)", 8, 30, A, v -> x.addKind(0, v, 2, 0));
            Due.is("addKind of width 8", x.addKind(0, 8, 2, 0), 0);
            Due.is("addKind of width 30", x.addKind(0, 30, 2, 0), 1);
        });
        Due.sentence(2, "a hole is 2 to 9", () -> {
            Beadslant x = new Beadslant();
            Due.outside(x, "addKind(0, 8, #, 0)", 2, 9, A, v -> x.addKind(0, 8, v, 0));
            Due.is("addKind of hole 2", x.addKind(0, 8, 2, 0), 0);
            Due.is("addKind of hole 9", x.addKind(0, 8, 9, 0), 1);
        });
        Due.sentence(2, "a price is 0 to 99", () -> {
            Beadslant x = new Beadslant();
            Due.outside(x, "addKind(0, 8, 2, #)", 0, 99, A, v -> x.addKind(0, 8, 2, v));
            Due.is("addKind of price 0", x.addKind(0, 8, 2, 0), 0);
            Due.is("addKind of price 99", x.addKind(0, 8, 2, 99), 1);
        });
        Due.sentence(2, "kinds are numbered from 0, at most 8", () -> {
            Beadslant x = new Beadslant();
            for (int kind = 0; kind < 8; kind++) {
                Due.is("addKind", x.addKind(kind, 8, 2, 0), kind);
            }
            Due.fails(x, "addKind of a ninth one", S, () -> x.addKind(0, 8, 2, 0));
            Due.fails(x, "stock(8)", X, () -> x.stock(8));
        });
        Due.sentence(2, "several kinds may have one colour", () -> {
            Beadslant x = new Beadslant();
            for (int kind = 0; kind < 8; kind++) {
                Due.is("addKind of colour 3", x.addKind(3, 8, 2, 0), kind);
            }
        });
        Due.sentence(2, "a kind that is refused takes no number", () -> {
            Beadslant x = new Beadslant();
            Due.fails(x, "addKind(8, 8, 2, 0)", A, () -> x.addKind(8, 8, 2, 0));
            Due.is("addKind behind it", x.addKind(0, 8, 2, 0), 0);
        });
    }

    private static void buy() {
        Due.sentence(3, "no such kind", () -> {
            Beadslant x = new Beadslant();
            Due.fails(x, "buy(0, 1) without kinds", X, () -> x.buy(0, 1));
            x.addKind(0, 8, 2, 0);
            x.addKind(0, 8, 2, 0);
            Due.outside(x, "buy(#, 1)", 0, 1, X, v -> x.buy(v, 1));
            for (int kind = 2; kind < 8; kind++) {
                x.addKind(0, 8, 2, 0);
            }
            Due.outside(x, "buy(#, 1) of eight", 0, 7, X, v -> x.buy(v, 1));
            Due.is("buy(0, 1)", x.buy(0, 1), 1);
            Due.is("buy(7, 1)", x.buy(7, 1), 1);
        });
        Due.sentence(3, "1 to 999 are bought", () -> {
            Beadslant x = Bench.ofOneKind(8, 2, 0, 0);
            Due.outside(x, "buy(0, #)", 1, 999, A, v -> x.buy(0, v));
            Due.is("buy(0, 1)", x.buy(0, 1), 1);
            Due.is("buy(0, 999)", x.buy(0, 999), 1000);
        });
        Due.sentence(3, "not more than 99999", () -> {
            Beadslant x = Bench.ofOneKind(8, 2, 99999 - 999, 0);
            Due.is("buy(0, 998)", x.buy(0, 998), 99998);
            Due.fails(x, "buy(0, 2)", S, () -> x.buy(0, 2));
            Due.fails(x, "buy(0, 999)", S, () -> x.buy(0, 999));
            Due.is("buy(0, 1)", x.buy(0, 1), 99999);
            Due.fails(x, "buy(0, 1) of a full stock", S, () -> x.buy(0, 1));
            Due.is("stock(0)", x.stock(0), 99999);
        });
        Due.sentence(3, "99999 at once by the greatest number", () -> {
            Beadslant x = Bench.ofOneKind(8, 2, 99999 - 999, 0);
            Due.is("buy(0, 999)", x.buy(0, 999), 99999);
        });
        Due.sentence(3, "beads that left the stock make room", () -> {
            Beadslant x = Bench.ofOneKind(8, 2, 99999, 0);
            x.string(0);
            Due.fails(x, "buy(0, 2)", S, () -> x.buy(0, 2));
            Due.is("buy(0, 1)", x.buy(0, 1), 99999);
            Due.is("account('b')", x.account('b'), 100000);
        });
        Due.sentence(3, "a full stock of a kind leaves room for another", () -> {
            Beadslant x = Bench.ofOneKind(8, 2, 99999, 0);
            x.addKind(0, 8, 2, 0);
            Due.is("buy(1, 999)", x.buy(1, 999), 999);
        });
        Due.sentence(3, "a bead costs its price, 0 to 99", () -> {
            Beadslant x = new Beadslant();
            x.addKind(0, 8, 2, 0);
            x.addKind(0, 8, 2, 99);
            x.buy(0, 999);
            Due.is("money() for beads of price 0", x.money(), 0);
            x.buy(1, 999);
            Due.is("money() for beads of price 99", x.money(), -98901);
        });
    }

    private static void stock() {
        Due.sentence(4, "no such kind", () -> {
            Beadslant x = new Beadslant();
            Due.outside(x, "stock(#) without kinds", 0, -1, X, v -> x.stock(v));
            x.addKind(0, 8, 2, 0);
            Due.outside(x, "stock(#) of one", 0, 0, X, v -> x.stock(v));
            for (int kind = 1; kind < 8; kind++) {
                x.addKind(0, 8, 2, 0);
            }
            Due.outside(x, "stock(#) of eight", 0, 7, X, v -> x.stock(v));
            Due.is("stock(7)", x.stock(7), 0);
        });
        Due.sentence(4, "none at first, and none behind the last one", () -> {
            Beadslant x = Bench.ofOneKind(8, 2, 0, 0);
            Due.is("stock(0)", x.stock(0), 0);
            x.buy(0, 1);
            Due.is("stock(0)", x.stock(0), 1);
            x.string(0);
            Due.is("stock(0)", x.stock(0), 0);
        });
    }

    private static void thread() {
        Due.sentence(5, "a length is 0 to 9999", () -> {
            Beadslant x = new Beadslant();
            Due.outside(x, "thread(#)", 0, 9999, A, v -> x.thread(v));
            Due.is("thread(0)", x.thread(0), 0);
            Due.is("thread(9999)", x.thread(9999), 9999);
        });
        Due.sentence(5, "it is not above 999999", () -> {
            Beadslant x = Bench.ofOneKind(8, 2, 0, 999998);
            Due.fails(x, "thread(2)", S, () -> x.thread(2));
            Due.fails(x, "thread(9999)", S, () -> x.thread(9999));
            Due.is("thread(1)", x.thread(1), 999999);
            Due.fails(x, "thread(1) of a full one", S, () -> x.thread(1));
            Due.is("thread(0) of a full one", x.thread(0), 999999);
        });
        Due.sentence(5, "999999 by the greatest length", () -> {
            Beadslant x = Bench.ofOneKind(8, 2, 0, 990000);
            Due.is("thread(9999)", x.thread(9999), 999999);
        });
        Due.sentence(5, "thread that was used makes room", () -> {
            Beadslant x = Bench.ofOneKind(8, 2, 2, 999999);
            Bench.plain(x, 'l', 2, 1, 0);
            Due.is("work(0)", x.work(0), 999967);
            Due.fails(x, "thread(33)", S, () -> x.thread(33));
            Due.is("thread(32)", x.thread(32), 999999);
        });
        Due.sentence(5, "it costs nothing", () -> {
            Beadslant x = new Beadslant();
            x.thread(9999);
            Due.is("money()", x.money(), 0);
        });
    }
}
