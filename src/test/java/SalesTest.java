import java.util.NoSuchElementException;

/** Promises 42 to 49: sales, accounts, shares and sums. */
public final class SalesTest {
    public static void main(String[] args) {
        sell();
        sellRefused();
        accounts();
        share();
        shareBitsOfAll();
        checksum();
        meanWidth();
        isSound();
        Due.end();
    }

    private static void sell() {
        Beadslant x = PathsTest.rich();
        int paid = -500 * (1 + 11 + 21 + 31);
        Due.is("money()", x.money(), paid);
        ClothsTest.newCloth(x, 'l', "000", "012");
        ClothsTest.newCloth(x, 'l', "000", "012");
        ClothsTest.newCloth(x, 'b', "00", "00");
        for (int cloth = 0; cloth < 3; cloth++) {
            x.work(cloth);
        }
        int price = 2 * (1 + 1 + 1 + 1 + 11 + 21);
        Due.is("sell(0) without rules", x.sell(0), price);
        Due.is("state(0)", x.state(0), 's');
        Due.is("money()", x.money(), paid + price);
        x.setRules(1, 15);
        // Three twos of neighbours, one on a slant, one three, and two cells of the frame.
        Due.is("sell(1) with all rules", x.sell(1), price - 3 * (3 + 1 + 1 + 2));
        ClothsTest.looks(x, 1, 3, 2, "000/012");
        x.setRules(2, 3);
        Due.is("sell(2) below 0, twos breaking both rules", x.sell(2), 8 - 3 * (5 + 3));
        Due.is("money()", x.money(), paid + 2 * price - 21 - 16);
        Due.is("account('x')", x.account('x'), 16);
        Due.is("isSound()", x.isSound(), true);
    }

    private static void sellRefused() {
        Beadslant x = PathsTest.rich();
        ClothsTest.newCloth(x, 'l', "01");
        Due.fails(x, "sell of a drawn cloth", UnsupportedOperationException.class, () -> x.sell(0));
        x.work(0);
        x.snap(0, 1);
        Due.fails(x, "sell with gaps", UnsupportedOperationException.class, () -> x.sell(0));
        x.addKind(0, 8, 9, 0);
        ClothsTest.newCloth(x, 'l', "01");
        x.work(1);
        x.sell(1);
        Due.fails(x, "sell of a sold cloth", UnsupportedOperationException.class, () -> x.sell(1));
        Due.fails(x, "draw of a sold cloth", UnsupportedOperationException.class, () -> x.draw(1, 0, 0, 0));
        Due.fails(x, "work of a sold cloth", UnsupportedOperationException.class, () -> x.work(1));
        Due.fails(x, "mend of a sold cloth", UnsupportedOperationException.class, () -> x.mend(1));
        Due.fails(x, "sell(2)", IndexOutOfBoundsException.class, () -> x.sell(2));
        Due.fails(x, "sell(-1)", IndexOutOfBoundsException.class, () -> x.sell(-1));
        Due.is("setRules of a sold cloth", x.setRules(1, 4), 0);
    }

    private static void accountsAre(Beadslant x, int bought, int stock, int strung, int cloths, int sold, int lost) {
        int[] want = {bought, stock, strung, cloths, sold, lost};
        for (int i = 0; i < 6; i++) {
            char kind = "bstcxl".charAt(i);
            Due.is("account('" + kind + "')", x.account(kind), want[i]);
        }
        Due.is("isSound()", x.isSound(), true);
    }

    private static void accounts() {
        Beadslant x = new Beadslant();
        x.addKind(0, 8, 9, 1);
        x.addKind(1, 9, 9, 2);
        x.buy(0, 20);
        x.buy(1, 10);
        x.thread(900);
        accountsAre(x, 30, 30, 0, 0, 0, 0);
        ClothsTest.newCloth(x, 'b', "011");
        ClothsTest.newCloth(x, 'b', "00");
        accountsAre(x, 30, 30, 0, 0, 0, 0);
        x.work(0);
        accountsAre(x, 30, 27, 0, 3, 0, 0);
        x.string(0);
        x.string(0);
        accountsAre(x, 30, 25, 2, 3, 0, 0);
        x.string(1);
        x.breakBead(0);
        accountsAre(x, 30, 24, 2, 3, 0, 1);
        x.crochet(1);
        accountsAre(x, 30, 24, 0, 5, 0, 1);
        x.snap(0, 0);
        accountsAre(x, 30, 24, 0, 4, 0, 2);
        x.sell(1);
        accountsAre(x, 30, 24, 0, 2, 2, 2);
        x.mend(0);
        accountsAre(x, 30, 23, 0, 3, 2, 2);
        x.sell(0);
        accountsAre(x, 30, 23, 0, 0, 5, 2);
        for (char kind : new char[] {'a', 'B', ' ', 'd', 'w', (char) 0, (char) 65535}) {
            Due.fails(x, "account of " + (int) kind, IllegalArgumentException.class, () -> x.account(kind));
        }
    }

    private static void share() {
        Beadslant x = ClothsTest.withKinds();
        ClothsTest.newCloth(x, 'l', "014", ".0.");
        Due.isNumber("share(0, 0)", x.share(0, 0), 0.75f);
        Due.isNumber("share(0, 1)", x.share(0, 1), 0.25f);
        Due.isNumber("share(0, 7)", x.share(0, 7), 0f);
        Due.is("shareBits(0, 7)", x.shareBits(0, 7), 0);
        Due.is("shareBits(0, 0)", x.shareBits(0, 0), Float.floatToIntBits(0.75f));
        x.draw(0, 1, 2, 2);
        Due.isNumber("share(0, 2)", x.share(0, 2), 1f / 5f);
        x.addCloth('l', 2, 2);
        for (int colour : new int[] {-1, 8, Integer.MAX_VALUE}) {
            Due.fails(x, "share(1, " + colour + ")", IllegalArgumentException.class, () -> x.share(1, colour));
            Due.fails(x, "shareBits(1, " + colour + ")", IllegalArgumentException.class,
                    () -> x.shareBits(1, colour));
        }
        Due.fails(x, "share of an empty cloth", NoSuchElementException.class, () -> x.share(1, 0));
        Due.fails(x, "shareBits of an empty cloth", NoSuchElementException.class, () -> x.shareBits(1, 0));
        for (int cloth : new int[] {-1, 2, 6}) {
            Due.fails(x, "share(" + cloth + ", 8)", IndexOutOfBoundsException.class, () -> x.share(cloth, 8));
            Due.fails(x, "shareBits(" + cloth + ", 8)", IndexOutOfBoundsException.class,
                    () -> x.shareBits(cloth, 8));
        }
        Beadslant y = PathsTest.rich();
        ClothsTest.newCloth(y, 'b', "011");
        y.work(0);
        y.snap(0, 5);
        Due.isNumber("share(0, 1) with a gap", y.share(0, 1), 0.5f);
    }

    /** Each share that can be: of the two colours of the cells that have a kind, 1 to 144. */
    private static void shareBitsOfAll() {
        for (int all = 1; all <= 144; all++) {
            Beadslant x = ClothsTest.withKinds();
            x.addCloth('l', 12, 12);
            for (int cell = 0; cell < all; cell++) {
                x.draw(0, cell / 12, cell % 12, 1);
            }
            for (int part = 0; part <= all; part++) {
                float want = (float) part / (float) all;
                String of = " of " + part + " of " + all;
                Due.isNumber("share" + of, x.share(0, 2), want);
                Due.is("shareBits" + of, x.shareBits(0, 2), Float.floatToIntBits(want));
                if (part < all) {
                    x.draw(0, part / 12, part % 12, 2);
                }
            }
        }
    }

    private static long sumOf(long... parts) {
        long sum = 7;
        for (long part : parts) {
            sum = 31 * sum + part;
        }
        return sum;
    }

    private static void checksum() {
        Beadslant x = new Beadslant();
        x.addKind(0, 8, 9, 1);
        x.addKind(1, 9, 9, 2);
        x.buy(0, 20);
        x.buy(1, 10);
        Due.is("checksum()", x.checksum(), sumOf(20, 10, 0, -40));
        x.thread(100);
        ClothsTest.newCloth(x, 'b', "01", "1.");
        Due.is("checksum()", x.checksum(), sumOf(20, 10, 1, 2, 2, 0, 'd', 100, -40));
        x.string(0);
        x.string(1);
        x.string(0);
        x.string(0);
        Due.is("checksum()", x.checksum(), sumOf(17, 9, 1, 2, 2, 0, 'd', 0, 1, 0, 0, 100, -40));
        x.draw(0, 1, 1, 0);
        x.work(0);
        x.snap(0, 0);
        Due.is("checksum()", x.checksum(), sumOf(15, 7, 0, 2, 2, 1, 'g', 0, 1, 0, 0, 32, -40));
        x.mend(0);
        x.sell(0);
        x.addCloth('l', 2, 1);
        Due.is("checksum()", x.checksum(), sumOf(14, 7, 1, 2, 2, 1, 's', 0, 0, 'd', 0, 1, 0, 0, 32, -28));
    }

    private static void meanWidth() {
        Beadslant x = new Beadslant();
        Due.fails(x, "meanWidth() without kinds", NoSuchElementException.class, () -> x.meanWidth());
        x.addKind(0, 8, 9, 1);
        x.addKind(1, 30, 9, 2);
        x.addKind(1, 11, 9, 2);
        Due.fails(x, "meanWidth() without stock", NoSuchElementException.class, () -> x.meanWidth());
        x.buy(1, 1);
        Due.isNumber("meanWidth()", x.meanWidth(), 30.0);
        x.buy(0, 2);
        Due.isNumber("meanWidth()", x.meanWidth(), 46.0 / 3.0);
        x.buy(2, 999);
        Due.isNumber("meanWidth()", x.meanWidth(), (46.0 + 999.0 * 11.0) / 1002.0);
        x.string(1);
        Due.isNumber("meanWidth() without strung beads", x.meanWidth(), (16.0 + 999.0 * 11.0) / 1001.0);
    }

    /** It is true at each step of a run that moves beads everywhere, up to a mending that is refused. */
    private static void isSound() {
        for (char stitch : "lpb".toCharArray()) {
            Beadslant x = PathsTest.rich();
            ClothsTest.newCloth(x, stitch, "3333", "3333", "3333");
            x.work(0);
            Due.is("isSound()", x.isSound(), true);
            boolean isRefused = false;
            for (int place = 0; place < x.pathLength(0) && !isRefused; place++) {
                int fallen = x.snap(0, place);
                Due.is("isSound() when snapped", x.isSound(), true);
                try {
                    isRefused = fallen > 0 && x.mend(0) != fallen;
                } catch (UnsupportedOperationException e) {
                    isRefused = true;
                }
                Due.is("isSound() when mended or refused", x.isSound(), true);
            }
            Due.is("a hole getting too narrow at last, by " + stitch, isRefused, true);
        }
    }
}
