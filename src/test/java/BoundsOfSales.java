import java.lang.reflect.Field;
import java.math.BigInteger;
import java.util.NoSuchElementException;

/** Each sentence of promises 42 to 49 that names a bound. */
final class BoundsOfSales {
    private static final Class<IndexOutOfBoundsException> X = IndexOutOfBoundsException.class;
    private static final Class<IllegalArgumentException> A = IllegalArgumentException.class;
    private static final Class<UnsupportedOperationException> U = UnsupportedOperationException.class;
    private static final Class<NoSuchElementException> N = NoSuchElementException.class;

    private BoundsOfSales() {
    }

    static void all() {
        sellRefused();
        sell();
        money();
        account();
        shareRefused();
        share();
        checksum();
        meanWidth();
        isSound();
        isUnsound();
    }

    private static void sellRefused() {
        Due.sentence(42, "no such cloth", () -> {
            Beadslant x = new Beadslant();
            Due.fails(x, "sell(0) without cloths", X, () -> x.sell(0));
            Beadslant y = Bench.inEachState();
            Due.outside(y, "sell(#)", 0, 3, X, v -> y.sell(v));
        });
        Due.sentence(42, "it is not worked", () -> {
            Beadslant x = Bench.inEachState();
            Due.fails(x, "sell of a drawn one", U, () -> x.sell(Bench.DRAWN));
            Due.fails(x, "sell of one with gaps", U, () -> x.sell(Bench.GAPPED));
            Due.fails(x, "sell of a sold one", U, () -> x.sell(Bench.SOLD));
            Due.is("sell of a worked one", x.sell(Bench.WORKED), 6);
            x.mend(Bench.GAPPED);
            Due.is("sell of a mended one", x.sell(Bench.GAPPED), 6);
        });
    }

    /** A worked brick cloth of 12 by 12 beads of one kind with this price, its first bead another one as dear. */
    private static Beadslant withLarge(int price) {
        Beadslant x = new Beadslant();
        x.addKind(0, 8, 2, price);
        x.addKind(1, 8, 2, price);
        x.buy(0, 143);
        x.buy(1, 1);
        x.thread(9999);
        Bench.plain(x, 'b', 12, 12, 0);
        x.draw(0, 0, 0, 1);
        x.work(0);
        return x;
    }

    private static void sell() {
        Due.sentence(42, "twice the prices, from 0 to 144 beads of 99", () -> {
            Due.is("sell of beads of price 0", withLarge(0).sell(0), 0);
            Due.is("sell of beads of price 99", withLarge(99).sell(0), 2 * 144 * 99);
        });
        Due.sentence(42, "less 3 for each that breaks one of its rules, and none for others", () -> {
            // The first cell has two neighbours, one above the other, and is the first of one three.
            int[] broken = {385 - 2, 253 - 1, 120 - 1, 43};
            for (int rules = 0; rules < 16; rules++) {
                Beadslant x = withLarge(0);
                x.setRules(0, rules);
                int all = 0;
                for (int bit = 0; bit < 4; bit++) {
                    all += (rules >> bit & 1) * broken[bit];
                }
                Due.is("sell by rules " + rules, x.sell(0), -3 * all);
                Due.is("money()", x.money(), -3 * all);
            }
        });
        Due.sentence(42, "rules set behind the work count", () -> {
            Beadslant x = Bench.stocked();
            Bench.plain(x, 'l', 2, 1, 0);
            x.setRules(0, 1);
            x.work(0);
            x.setRules(0, 0);
            Due.is("sell(0)", x.sell(0), 4);
            Bench.plain(x, 'l', 2, 1, 0);
            x.work(1);
            x.setRules(1, 1);
            Due.is("sell(1)", x.sell(1), 1);
        });
        Due.sentence(42, "the smallest cloth, above, at and below 0", () -> {
            int[] prices = {2, 1, 0};
            int[] want = {8 - 3, 4 - 3, -3};
            for (int i = 0; i < 3; i++) {
                Beadslant x = new Beadslant();
                x.addKind(0, 8, 2, prices[i]);
                x.buy(0, 2);
                x.thread(99);
                Bench.plain(x, 'p', 2, 1, 0);
                x.work(0);
                x.setRules(0, 1);
                Due.is("sell(0)", x.sell(0), want[i]);
            }
        });
        Due.sentence(42, "a crocheted cloth is sold for the prices of its beads", () -> {
            Beadslant x = new Beadslant();
            x.addKind(0, 8, 2, 1);
            x.addKind(0, 8, 2, 50);
            x.buy(1, 2);
            Bench.plain(x, 'l', 2, 1, 0);
            Bench.strings(x, 1, 2);
            x.crochet(0);
            Due.is("sell(0)", x.sell(0), 200);
        });
    }

    private static void money() {
        Due.sentence(43, "0 at first, below 0 by what beads cost, above by sales", () -> {
            Beadslant x = new Beadslant();
            Due.is("money() at first", x.money(), 0);
            x.addKind(0, 8, 2, 99);
            Due.is("money() of a kind", x.money(), 0);
            x.buy(0, 2);
            Due.is("money() behind buying", x.money(), -198);
            x.thread(99);
            Bench.plain(x, 'l', 2, 1, 0);
            x.work(0);
            Due.is("money() behind working", x.money(), -198);
            x.sell(0);
            Due.is("money() behind selling", x.money(), 198);
        });
        Due.sentence(43, "lost beads bring nothing back", () -> {
            Beadslant x = Bench.ofOneKind(8, 2, 1, 0);
            x.string(0);
            x.breakBead(0);
            Due.is("money()", x.money(), -1);
        });
        Due.sentence(43, "the least that 512 calls can bring", () -> {
            Beadslant x = new Beadslant();
            for (int kind = 0; kind < 8; kind++) {
                x.addKind(0, 8, 2, 99);
            }
            for (int call = 0; call < 503; call++) {
                x.buy(call % 8, 999);
            }
            Due.is("money()", x.money(), -503 * 999 * 99);
            Due.is("account('b')", x.account('b'), 503 * 999);
        });
    }

    private static void account() {
        Due.sentence(44, "there is no such account, but for six signs", () -> {
            Beadslant x = Bench.inEachState();
            for (int sign = 0; sign < 256; sign++) {
                char kind = (char) sign;
                if ("bstcxl".indexOf(kind) < 0) {
                    Due.fails(x, "account(" + sign + ")", A, () -> x.account(kind));
                } else {
                    char high = (char) (sign + 256);
                    Due.fails(x, "account(" + (int) high + ")", A, () -> x.account(high));
                    Due.is("account(" + sign + ")", x.account(kind) >= 0, true);
                }
            }
            Due.fails(x, "account(65535)", A, () -> x.account((char) 65535));
        });
        Due.sentence(44, "each is empty at first", () -> {
            Beadslant x = new Beadslant();
            for (char kind : "bstcxl".toCharArray()) {
                Due.is("account('" + kind + "')", x.account(kind), 0);
            }
        });
        Due.sentence(44, "all beads bought are in each one in turn", () -> {
            Beadslant x = Bench.ofOneKind(8, 2, 4, 99);
            Bench.plain(x, 'b', 2, 1, 0);
            Bench.plain(x, 'b', 2, 1, 0);
            accountsAre(x, 4, 4, 0, 0, 0, 0);
            Bench.strings(x, 0, 2);
            accountsAre(x, 4, 2, 2, 0, 0, 0);
            x.work(0);
            accountsAre(x, 4, 0, 2, 2, 0, 0);
            x.crochet(1);
            accountsAre(x, 4, 0, 0, 4, 0, 0);
            x.sell(0);
            accountsAre(x, 4, 0, 0, 2, 2, 0);
            x.snap(1, 1);
            accountsAre(x, 4, 0, 0, 0, 2, 2);
            x.buy(0, 2);
            accountsAre(x, 6, 2, 0, 0, 2, 2);
            x.mend(1);
            accountsAre(x, 6, 0, 0, 2, 2, 2);
            x.sell(1);
            accountsAre(x, 6, 0, 0, 0, 4, 2);
        });
    }

    private static void accountsAre(Beadslant x, int... want) {
        for (int i = 0; i < 6; i++) {
            char kind = "bstcxl".charAt(i);
            Due.is("account('" + kind + "')", x.account(kind), want[i]);
        }
        Due.is("isSound()", x.isSound(), true);
    }

    private static void shareRefused() {
        Due.sentence(45, "no such cloth", () -> {
            Beadslant x = new Beadslant();
            Due.fails(x, "share(0, 0) without cloths", X, () -> x.share(0, 0));
            Beadslant y = Bench.inEachState();
            Due.outside(y, "share(#, 0)", 0, 3, X, v -> y.share(v, 0));
        });
        Due.sentence(46, "no such cloth", () -> {
            Beadslant x = new Beadslant();
            Due.fails(x, "shareBits(0, 0) without cloths", X, () -> x.shareBits(0, 0));
            Beadslant y = Bench.inEachState();
            Due.outside(y, "shareBits(#, 0)", 0, 3, X, v -> y.shareBits(v, 0));
        });
        Due.sentence(45, "a colour is 0 to 7", () -> {
            Beadslant x = Bench.inEachState();
            Due.outside(x, "share(0, #)", 0, 7, A, v -> x.share(0, v));
            Due.isNumber("share(0, 0)", x.share(0, 0), 1f / 3f);
            Due.isNumber("share(0, 7)", x.share(0, 7), 0f);
        });
        Due.sentence(46, "a colour is 0 to 7", () -> {
            Beadslant x = Bench.inEachState();
            Due.outside(x, "shareBits(0, #)", 0, 7, A, v -> x.shareBits(0, v));
            Due.is("shareBits(0, 0)", x.shareBits(0, 0), Float.floatToIntBits(1f / 3f));
            Due.is("shareBits(0, 7)", x.shareBits(0, 7), 0);
        });
        Due.sentence(45, "it has none, being empty or all gaps", () -> {
            Beadslant x = withoutBeads();
            Due.fails(x, "share(0, 0)", N, () -> x.share(0, 0));
            Due.fails(x, "share(1, 0)", N, () -> x.share(1, 0));
            x.draw(0, 0, 1, 0);
            Due.isNumber("share(0, 0) of one bead", x.share(0, 0), 1f);
            Due.isNumber("share(0, 1) of one bead", x.share(0, 1), 0f);
        });
        Due.sentence(46, "it has none, being empty or all gaps", () -> {
            Beadslant x = withoutBeads();
            Due.fails(x, "shareBits(0, 0)", N, () -> x.shareBits(0, 0));
            Due.fails(x, "shareBits(1, 0)", N, () -> x.shareBits(1, 0));
            x.draw(0, 0, 1, 0);
            Due.is("shareBits(0, 0) of one bead", x.shareBits(0, 0), Float.floatToIntBits(1f));
            Due.is("shareBits(0, 1) of one bead", x.shareBits(0, 1), Float.floatToIntBits(0f));
        });
    }

    /** Cloth 0 is empty, cloth 1 has but gaps. */
    private static Beadslant withoutBeads() {
        Beadslant x = Bench.stocked();
        x.addCloth('l', 2, 1);
        Bench.plain(x, 'b', 2, 1, 0);
        x.work(1);
        Due.is("snap(1, 1)", x.snap(1, 1), 2);
        return x;
    }

    private static void share() {
        Due.sentence(45, "from the least to the whole of the largest cloth", () -> {
            Beadslant x = Bench.stocked();
            Bench.plain(x, 'l', 12, 12, 0);
            Due.isNumber("share(0, 0)", x.share(0, 0), 1f);
            x.draw(0, 11, 11, 1);
            Due.isNumber("share(0, 1)", x.share(0, 1), 1f / 144f);
            Due.isNumber("share(0, 0)", x.share(0, 0), 143f / 144f);
        });
        Due.sentence(46, "from the least to the whole of the largest cloth", () -> {
            Beadslant x = Bench.stocked();
            Bench.plain(x, 'l', 12, 12, 0);
            Due.is("shareBits(0, 0)", x.shareBits(0, 0), 0x3f800000);
            x.draw(0, 11, 11, 1);
            Due.is("shareBits(0, 1)", x.shareBits(0, 1), Float.floatToIntBits(1f / 144f));
            Due.is("shareBits(0, 0)", x.shareBits(0, 0), Float.floatToIntBits(143f / 144f));
        });
        Due.sentence(46, "a half, a quarter and so on, whose bits after the point are all 0", () -> {
            for (int cells = 2; cells <= 128; cells *= 2) {
                Beadslant x = Bench.stocked();
                x.addCloth('l', 12, 12);
                for (int cell = 0; cell < cells; cell++) {
                    x.draw(0, cell / 12, cell % 12, cell == 0 ? 1 : 0);
                }
                Due.is("shareBits(0, 1) of " + cells, x.shareBits(0, 1), Float.floatToIntBits(1f / cells));
                Due.is("shareBits(0, 0) of " + cells, x.shareBits(0, 0), Float.floatToIntBits(1f - 1f / cells));
            }
        });
        Due.sentence(45, "empty cells and gaps are not counted", () -> {
            Beadslant x = Bench.inEachState();
            Due.isNumber("share of a gap's colour", x.share(Bench.GAPPED, 0), 0f);
            Due.isNumber("share with a gap", x.share(Bench.GAPPED, 1), 0.5f);
            Due.isNumber("share of a worked one", x.share(Bench.WORKED, 1), 1f / 3f);
            Due.isNumber("share of a sold one", x.share(Bench.SOLD, 1), 1f / 3f);
            x.draw(Bench.DRAWN, 0, 0, -1);
            Due.isNumber("share with an empty cell", x.share(Bench.DRAWN, 1), 0.5f);
        });
    }

    /** The sum of the document, without any bound, cut to 64 bits at last. */
    private static long sumOf(int cells, int kind, int stock, char state, int strung, int thread, int money) {
        BigInteger sum = BigInteger.valueOf(7);
        BigInteger by = BigInteger.valueOf(31);
        sum = sum.multiply(by).add(BigInteger.valueOf(stock));
        for (int cell = 0; cell < cells; cell++) {
            sum = sum.multiply(by).add(BigInteger.valueOf(kind + 1));
        }
        sum = sum.multiply(by).add(BigInteger.valueOf(state));
        for (int bead = 0; bead < strung; bead++) {
            sum = sum.multiply(by).add(BigInteger.valueOf(0));
        }
        sum = sum.multiply(by).add(BigInteger.valueOf(thread));
        return sum.multiply(by).add(BigInteger.valueOf(money)).longValue();
    }

    private static void checksum() {
        Due.sentence(47, "7 at first, then the thread and the money", () -> {
            Beadslant x = new Beadslant();
            Due.is("checksum()", x.checksum(), 7 * 31 * 31);
            x.thread(5);
            Due.is("checksum()", x.checksum(), (7 * 31 + 5) * 31);
        });
        Due.sentence(47, "each kind's stock, 0 too, money below 0", () -> {
            Beadslant x = new Beadslant();
            x.addKind(0, 8, 2, 2);
            x.addKind(0, 8, 2, 2);
            x.buy(1, 3);
            Due.is("checksum()", x.checksum(), ((7 * 31 + 0) * 31 + 3) * 31L * 31L - 6);
        });
        Due.sentence(47, "a cell's kind and 1, 0 for none", () -> {
            Beadslant x = Bench.ofOneKind(8, 2, 0, 0);
            x.addCloth('l', 12, 12);
            Due.is("checksum() of an empty cloth", x.checksum(), sumOf(144, -1, 0, 'd', 0, 0, 0));
            x.draw(0, 0, 0, 0);
            x.motif(0, 1, 1, 0);
            Due.is("checksum() of a full cloth", x.checksum(), sumOf(144, 0, 0, 'd', 0, 0, 0));
        });
        Due.sentence(47, "0 for a gap, and the letter of each state", () -> {
            Beadslant x = Bench.ofOneKind(8, 9, 5, 99);
            Bench.plain(x, 'b', 2, 1, 0);
            Due.is("checksum(), drawn", x.checksum(), sumOf(2, 0, 5, 'd', 0, 99, -5));
            x.work(0);
            Due.is("checksum(), worked", x.checksum(), sumOf(2, 0, 3, 'w', 0, 67, -5));
            x.snap(0, 1);
            Due.is("checksum(), gapped", x.checksum(), sumOf(2, -1, 3, 'g', 0, 67, -5));
            x.mend(0);
            Due.is("checksum(), mended", x.checksum(), sumOf(2, 0, 1, 'w', 0, 67, -5));
            x.sell(0);
            Due.is("checksum(), sold", x.checksum(), sumOf(2, 0, 1, 's', 0, 67, -1));
        });
        Due.sentence(47, "each bead of a full string, from that strung first on", () -> {
            Beadslant x = Bench.ofOneKind(8, 2, 145, 0);
            x.addCloth('l', 2, 1);
            Bench.strings(x, 0, 144);
            Due.is("checksum()", x.checksum(), sumOf(2, -1, 1, 'd', 144, 0, -145));
            Beadslant y = new Beadslant();
            y.addKind(0, 8, 2, 0);
            y.addKind(0, 8, 2, 0);
            y.buy(0, 1);
            y.buy(1, 1);
            y.string(1);
            y.string(0);
            Due.is("checksum() of two", y.checksum(), ((7L * 31 * 31 * 31 + 1) * 31 + 0) * 31 * 31);
        });
        Due.sentence(47, "it goes round beyond 64 bits", () -> {
            Beadslant x = Bench.ofOneKind(8, 2, 999, 9999);
            Bench.plain(x, 'p', 12, 12, 0);
            x.work(0);
            Bench.strings(x, 0, 100);
            Due.is("checksum()", x.checksum(), sumOf(144, 0, 999 - 244, 'w', 100, 9999 - 282 * 8, -999));
        });
    }

    private static void meanWidth() {
        Due.sentence(48, "there are none: no kind, no stock, all strung", () -> {
            Beadslant x = new Beadslant();
            Due.fails(x, "meanWidth() without kinds", N, () -> x.meanWidth());
            x.addKind(0, 8, 2, 0);
            Due.fails(x, "meanWidth() without stock", N, () -> x.meanWidth());
            x.buy(0, 1);
            Due.isNumber("meanWidth() of one", x.meanWidth(), 8.0);
            x.string(0);
            Due.fails(x, "meanWidth() of none", N, () -> x.meanWidth());
        });
        Due.sentence(48, "from 8 to 30", () -> {
            Beadslant x = new Beadslant();
            x.addKind(0, 30, 2, 0);
            x.addKind(0, 8, 2, 0);
            x.buy(0, 999);
            Due.isNumber("meanWidth()", x.meanWidth(), 30.0);
            x.buy(1, 1);
            Due.isNumber("meanWidth()", x.meanWidth(), 29978.0 / 1000.0);
        });
        Due.sentence(48, "both converted to double, not to float", () -> {
            Beadslant x = new Beadslant();
            x.addKind(0, 8, 2, 0);
            x.addKind(0, 9, 2, 0);
            x.buy(0, 2);
            x.buy(1, 1);
            Due.isNumber("meanWidth()", x.meanWidth(), 25.0 / 3.0);
        });
        Due.sentence(48, "stocks as full as 512 calls make them", () -> {
            Beadslant x = new Beadslant();
            for (int kind = 0; kind < 8; kind++) {
                x.addKind(0, 23 + kind, 2, 0);
            }
            long many = 0;
            long wide = 0;
            for (int call = 0; call < 503; call++) {
                int kind = 7 - call / 100;
                int beads = call % 100 == 0 ? 99 : 999;
                x.buy(kind, beads);
                many += beads;
                wide += beads * (23L + kind);
            }
            Due.isNumber("meanWidth()", x.meanWidth(), (double) wide / (double) many);
        });
    }

    private static void isSound() {
        Due.sentence(49, "of a new object, and of one with cloths in each state", () -> {
            Due.is("isSound() of a new object", new Beadslant().isSound(), true);
            Due.is("isSound() of each state", Bench.inEachState().isSound(), true);
        });
        Due.sentence(49, "drawn cloths may have empty cells, gaps are no empty cells of worked ones", () -> {
            Beadslant x = Bench.inEachState();
            x.addCloth('l', 12, 12);
            Due.is("isSound()", x.isSound(), true);
            x.snap(Bench.WORKED, 1);
            Due.is("isSound() with gaps", x.isSound(), true);
        });
        Due.sentence(49, "a drawn cloth may have beads that are not in stock", () -> {
            Beadslant x = Bench.ofOneKind(8, 2, 0, 0);
            Bench.plain(x, 'l', 12, 12, 0);
            Due.is("isSound()", x.isSound(), true);
        });
        Due.sentence(49, "a bead passed just so often as its hole tells", () -> {
            Beadslant x = Bench.ofOneKind(8, 3, 9, 99);
            Bench.plain(x, 'b', 2, 1, 0);
            x.work(0);
            x.snap(0, 0);
            x.mend(0);
            Due.is("passes(0, 0, 1)", x.passes(0, 0, 1), 3);
            Due.is("isSound()", x.isSound(), true);
        });
    }

    private static void isUnsound() {
        Due.sentence(49, "not with one bead more or fewer than were bought", () -> {
            for (String field : new String[] {"bought", "lost"}) {
                for (int by = -1; by <= 1; by++) {
                    Beadslant x = Bench.inEachState();
                    add(x, field, by);
                    Due.is("isSound() with " + field + " changed by " + by, x.isSound(), by == 0);
                }
            }
        });
        Due.sentence(49, "not with an empty cell in a worked cloth", () -> {
            for (int cloth = 0; cloth < 6; cloth++) {
                for (int cell = 0; cell < 3; cell++) {
                    Beadslant x = sixWorked();
                    cellsOf(x, cloth, "cellKinds")[cell] = -1;
                    // The bead is told as lost, so that the beads are as many as were bought.
                    add(x, "lost", 1);
                    Due.is("isSound()", x.isSound(), false);
                }
            }
        });
        Due.sentence(49, "not with a bead passed more often than its hole tells, in each state", () -> {
            for (int cloth = Bench.WORKED; cloth <= Bench.SOLD; cloth++) {
                for (int cell = cloth == Bench.GAPPED ? 1 : 0; cell < 3; cell++) {
                    Beadslant x = Bench.inEachState();
                    cellsOf(x, cloth, "passCounts")[cell] = 9;
                    Due.is("isSound() with 9 passes", x.isSound(), true);
                    cellsOf(x, cloth, "passCounts")[cell] = 10;
                    Due.is("isSound() with 10 passes", x.isSound(), false);
                }
            }
        });
    }

    private static Beadslant sixWorked() {
        Beadslant x = Bench.stocked();
        for (int cloth = 0; cloth < 6; cloth++) {
            ClothsTest.newCloth(x, 'b', "012");
            x.work(cloth);
        }
        return x;
    }

    // No run of calls comes to what is not sound: these reach into the object.

    private static void add(Beadslant x, String name, int by) {
        try {
            Field field = Beadslant.class.getDeclaredField(name);
            field.setAccessible(true);
            field.setInt(x, field.getInt(x) + by);
        } catch (ReflectiveOperationException e) {
            Due.complain("no field " + name);
        }
    }

    private static int[] cellsOf(Beadslant x, int cloth, String name) {
        try {
            Field cloths = Beadslant.class.getDeclaredField("cloths");
            cloths.setAccessible(true);
            Object found = ((Object[]) cloths.get(x))[cloth];
            Field cells = found.getClass().getDeclaredField(name);
            cells.setAccessible(true);
            return (int[]) cells.get(found);
        } catch (ReflectiveOperationException e) {
            Due.complain("no field " + name);
            return new int[144];
        }
    }
}
