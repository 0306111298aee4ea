import java.util.NoSuchElementException;

/** Promises 6 to 16: cloths, their cells, motifs, rules and ways to fill them. */
public final class ClothsTest {
    public static void main(String[] args) {
        addClothAndState();
        drawAndKindAt();
        onlyDrawnCellsChange();
        motif();
        motifLeans();
        setRules();
        brokenNeighbours();
        brokenBySingleNeighbours();
        brokenThrees();
        brokenFrame();
        brokenGaps();
        ways();
        waysKeepEachRule();
        fill();
        repeat();
        isMirrored();
        Due.end();
    }

    /** Kinds 0 to 3 of the colours 0 to 3, and 4 of colour 0 too. */
    static Beadslant withKinds() {
        Beadslant x = new Beadslant();
        for (int kind = 0; kind < 4; kind++) {
            x.addKind(kind, 8 + kind, 2 + kind, kind);
        }
        x.addKind(0, 20, 9, 50);
        return x;
    }

    /** Draws rows of digits, '.' for empty cells. */
    static void drawRows(Beadslant x, int cloth, String... rows) {
        for (int row = 0; row < rows.length; row++) {
            for (int column = 0; column < rows[row].length(); column++) {
                char sign = rows[row].charAt(column);
                x.draw(cloth, row, column, sign == '.' ? -1 : sign - '0');
            }
        }
    }

    static int newCloth(Beadslant x, char stitch, String... rows) {
        int cloth = x.addCloth(stitch, rows[0].length(), rows.length);
        drawRows(x, cloth, rows);
        return cloth;
    }

    static String rowsOf(Beadslant x, int cloth, int columns, int rows) {
        StringBuilder seen = new StringBuilder();
        for (int row = 0; row < rows; row++) {
            for (int column = 0; column < columns; column++) {
                int kind = x.kindAt(cloth, row, column);
                seen.append(kind == -1 ? '.' : (char) ('0' + kind));
            }
            seen.append(row + 1 < rows ? "/" : "");
        }
        return seen.toString();
    }

    static void looks(Beadslant x, int cloth, int columns, int rows, String want) {
        String seen = rowsOf(x, cloth, columns, rows);
        if (!seen.equals(want)) {
            Due.complain("cloth " + cloth + " is " + seen + ", due is " + want);
        }
    }

    private static void addClothAndState() {
        Beadslant x = withKinds();
        Object[][] wrong = {{'x', 3, 3}, {'L', 3, 3}, {(char) 0, 3, 3}, {'l', 1, 3}, {'l', 13, 3}, {'p', 3, 0},
            {'b', 3, 13}, {'b', -3, -3}, {'l', Integer.MAX_VALUE, Integer.MAX_VALUE}, {'l', Integer.MIN_VALUE, 2}};
        for (Object[] w : wrong) {
            Due.fails(x, "addCloth(" + w[0] + ", " + w[1] + ", " + w[2] + ")", IllegalArgumentException.class,
                    () -> x.addCloth((char) w[0], (int) w[1], (int) w[2]));
        }
        char[] stitches = {'l', 'p', 'b', 'l', 'p', 'b'};
        for (int cloth = 0; cloth < 6; cloth++) {
            Due.is("addCloth", x.addCloth(stitches[cloth], cloth % 2 == 0 ? 2 : 12, cloth % 3 == 0 ? 1 : 12), cloth);
            Due.is("state", x.state(cloth), 'd');
        }
        Due.is("kindAt of a new cloth", x.kindAt(5, 11, 11), -1);
        Due.fails(x, "a seventh addCloth", IllegalStateException.class, () -> x.addCloth('l', 2, 1));
        Due.fails(x, "a seventh addCloth of no stitch", IllegalArgumentException.class, () -> x.addCloth('q', 2, 1));
        Due.fails(x, "state(6)", IndexOutOfBoundsException.class, () -> x.state(6));
        Due.fails(x, "state(-1)", IndexOutOfBoundsException.class, () -> x.state(-1));
        Due.fails(x, "state(MAX)", IndexOutOfBoundsException.class, () -> x.state(Integer.MAX_VALUE));
    }

    private static void drawAndKindAt() {
        Beadslant x = withKinds();
        x.addCloth('l', 3, 2);
        Due.is("draw(0, 1, 2, 4)", x.draw(0, 1, 2, 4), -1);
        Due.is("draw(0, 1, 2, 2)", x.draw(0, 1, 2, 2), 4);
        Due.is("kindAt(0, 1, 2)", x.kindAt(0, 1, 2), 2);
        Due.is("kindAt(0, 0, 2)", x.kindAt(0, 0, 2), -1);
        Due.is("draw(0, 1, 2, -1)", x.draw(0, 1, 2, -1), 2);
        Due.is("kindAt(0, 1, 2)", x.kindAt(0, 1, 2), -1);
        Due.is("draw(0, 1, 2, -1)", x.draw(0, 1, 2, -1), -1);
        Due.is("draw(0, 0, 0, 0), without stock", x.draw(0, 0, 0, 0), -1);
        int[][] wrong = {{1, 0, 0, 0}, {-1, 0, 0, 0}, {0, -1, 0, 0}, {0, 2, 0, 0}, {0, 0, -1, 0}, {0, 0, 3, 0},
            {0, 0, 0, 5}, {0, 0, 0, -2}, {0, 0, 0, 8}, {0, 1, 1, Integer.MAX_VALUE}};
        for (int[] w : wrong) {
            Due.fails(x, "draw(" + w[0] + ", " + w[1] + ", " + w[2] + ", " + w[3] + ")",
                    IndexOutOfBoundsException.class, () -> x.draw(w[0], w[1], w[2], w[3]));
        }
        for (int i = 0; i < 6; i++) {
            int[] w = wrong[i];
            Due.fails(x, "kindAt(" + w[0] + ", " + w[1] + ", " + w[2] + ")",
                    IndexOutOfBoundsException.class, () -> x.kindAt(w[0], w[1], w[2]));
        }
    }

    private static void onlyDrawnCellsChange() {
        Beadslant x = PathsTest.rich();
        int cloth = newCloth(x, 'l', "01", "10");
        x.work(cloth);
        Due.fails(x, "draw of a worked cloth", UnsupportedOperationException.class, () -> x.draw(0, 0, 0, 1));
        Due.fails(x, "draw of a worked cloth, no such kind", IndexOutOfBoundsException.class,
                () -> x.draw(0, 0, 0, 5));
        x.snap(cloth, 3);
        Due.fails(x, "draw of a cloth with gaps", UnsupportedOperationException.class, () -> x.draw(0, 0, 0, 1));
        Due.fails(x, "motif of a cloth with gaps", UnsupportedOperationException.class, () -> x.motif(0, 1, 1, 0));
    }

    private static void motif() {
        Beadslant x = withKinds();
        x.addCloth('l', 5, 4);
        drawRows(x, 0, "01...", "23...");
        Due.is("motif(0, 2, 2, 0)", x.motif(0, 2, 2, 0), 16);
        looks(x, 0, 5, 4, "01010/23232/01010/23232");
        Due.is("motif(0, 2, 2, 0) again", x.motif(0, 2, 2, 0), 0);
        Due.is("motif(0, 5, 4, 7), the block being all", x.motif(0, 5, 4, 7), 0);
        Due.is("motif(0, 1, 2, 0)", x.motif(0, 1, 2, 0), 8);
        looks(x, 0, 5, 4, "00000/22222/00000/22222");
        x.draw(0, 0, 0, 4);
        Due.is("motif(0, 1, 1, 0), a kind of one colour being another kind", x.motif(0, 1, 1, 0), 19);
        int[][] wrong = {{0, 1, 0}, {6, 1, 0}, {1, 0, 0}, {1, 5, 0}, {1, 1, -13}, {1, 1, 13}, {-1, -1, 0},
            {Integer.MAX_VALUE, 1, 0}};
        for (int[] w : wrong) {
            Due.fails(x, "motif(0, " + w[0] + ", " + w[1] + ", " + w[2] + ")", IllegalArgumentException.class,
                    () -> x.motif(0, w[0], w[1], w[2]));
        }
        Due.fails(x, "motif(1, 0, 0, 0)", IndexOutOfBoundsException.class, () -> x.motif(1, 0, 0, 0));
        x.draw(0, 1, 1, -1);
        Due.fails(x, "motif with an empty cell in its block", UnsupportedOperationException.class,
                () -> x.motif(0, 2, 2, 0));
        Due.is("motif with an empty cell behind its block", x.motif(0, 1, 2, 0), 1);
        x.draw(0, 0, 3, -1);
        Due.fails(x, "motif with an empty cell in its row", UnsupportedOperationException.class,
                () -> x.motif(0, 4, 1, 0));
        x.draw(0, 3, 0, -1);
        Due.fails(x, "motif with an empty cell in its column", UnsupportedOperationException.class,
                () -> x.motif(0, 1, 4, 0));
    }

    private static void motifLeans() {
        Beadslant x = withKinds();
        x.addCloth('p', 6, 5);
        drawRows(x, 0, "012");
        Due.is("motif(0, 3, 1, 1)", x.motif(0, 3, 1, 1), 27);
        looks(x, 0, 6, 5, "012012/201201/120120/012012/201201");
        x.motif(0, 3, 1, -1);
        looks(x, 0, 6, 5, "012012/120120/201201/012012/120120");
        x.motif(0, 3, 2, 1);
        looks(x, 0, 6, 5, "012012/120120/201201/012012/120120");
        drawRows(x, 0, "0123", "1230");
        x.motif(0, 4, 2, 12);
        looks(x, 0, 6, 5, "012301/123012/012301/123012/012301");
        x.motif(0, 4, 2, -11);
        looks(x, 0, 6, 5, "012301/123012/301230/012301/230123");
    }

    private static void setRules() {
        Beadslant x = withKinds();
        x.addCloth('l', 2, 1);
        x.addCloth('l', 2, 1);
        Due.is("setRules(0, 15)", x.setRules(0, 15), 0);
        Due.is("setRules(0, 0)", x.setRules(0, 0), 15);
        Due.is("setRules(0, 6)", x.setRules(0, 6), 0);
        Due.is("setRules(1, 1), each cloth having its own", x.setRules(1, 1), 0);
        Due.fails(x, "setRules(0, 16)", IllegalArgumentException.class, () -> x.setRules(0, 16));
        Due.fails(x, "setRules(0, -1)", IllegalArgumentException.class, () -> x.setRules(0, -1));
        Due.fails(x, "setRules(2, 16)", IndexOutOfBoundsException.class, () -> x.setRules(2, 16));
        Due.is("setRules(0, 1)", x.setRules(0, 1), 6);
    }

    private static void brokenNeighbours() {
        Beadslant x = withKinds();
        newCloth(x, 'l', "0000", "0000", "0000");
        newCloth(x, 'p', "0404", "4040", "0404");
        newCloth(x, 'b', "0000", "0000", "0000");
        Due.is("broken(0, 1), loom", x.broken(0, 1), 8 + 9);
        Due.is("broken(0, 2), loom", x.broken(0, 2), 12);
        Due.is("broken(1, 1), peyote", x.broken(1, 1), 8 + 9 + 6);
        Due.is("broken(1, 2), peyote", x.broken(1, 2), 9 + 6);
        Due.is("broken(2, 1), brick", x.broken(2, 1), 8 + 9 + 6);
        Due.is("broken(2, 2), brick", x.broken(2, 2), 8 + 6);
        x.setRules(0, 8);
        Due.is("broken(0, 1), no rule of the cloth", x.broken(0, 1), 17);
        for (int rule : new int[] {0, 3, 5, 15, 16, -1, -8, Integer.MIN_VALUE}) {
            Due.fails(x, "broken(0, " + rule + ")", IllegalArgumentException.class, () -> x.broken(0, rule));
        }
        Due.fails(x, "broken(3, 0)", IndexOutOfBoundsException.class, () -> x.broken(3, 0));
        Due.fails(x, "broken(-1, 1)", IndexOutOfBoundsException.class, () -> x.broken(-1, 1));
    }

    /** One bead in the midst, and one of its colour in turn at each of the cells around it. */
    private static void brokenBySingleNeighbours() {
        String[] neighbours = {"010101010", "010101111", "111101010", "010101010", "110101110", "011101011"};
        String[] slants = {"101000101", "000101101", "101101000", "101000101", "110000110", "011000011"};
        char[] stitches = {'l', 'p', 'p', 'l', 'b', 'b'};
        int[] rows = {1, 1, 1, 1, 2, 1};
        int[] columns = {1, 1, 2, 2, 1, 1};
        for (int i = 0; i < stitches.length; i++) {
            Beadslant x = withKinds();
            x.addCloth(stitches[i], 4, 4);
            x.draw(0, rows[i], columns[i], 1);
            for (int around = 0; around < 9; around++) {
                if (around == 4) {
                    continue;
                }
                int row = rows[i] + around / 3 - 1;
                int column = columns[i] + around % 3 - 1;
                x.draw(0, row, column, 1);
                String where = stitches[i] + " at " + rows[i] + "," + columns[i] + " with " + row + "," + column;
                Due.is("broken(0, 1) by " + where, x.broken(0, 1), neighbours[i].charAt(around) - '0');
                Due.is("broken(0, 2) by " + where, x.broken(0, 2), slants[i].charAt(around) - '0');
                x.draw(0, row, column, 2);
                Due.is("broken(0, 1) by other colours", x.broken(0, 1) + x.broken(0, 2), 0);
                x.draw(0, row, column, -1);
            }
        }
    }

    private static void brokenThrees() {
        Beadslant x = withKinds();
        newCloth(x, 'l', "00000", "01010", "11411", "222.2", "33333");
        Due.is("broken(0, 4)", x.broken(0, 4), 3 + 0 + 0 + 1 + 3);
        newCloth(x, 'p', "04", "00", "00");
        Due.is("broken(1, 4) of two columns", x.broken(1, 4), 0);
        newCloth(x, 'b', "0400");
        Due.is("broken(2, 4) by kinds of one colour", x.broken(2, 4), 2);
        newCloth(x, 'b', "...");
        Due.is("broken(3, 4) of empty cells", x.broken(3, 4), 0);
    }

    private static void brokenFrame() {
        Beadslant x = withKinds();
        newCloth(x, 'l', "0412", "0220", "1.30", "00.1");
        Due.is("broken(0, 8)", x.broken(0, 8), 4);
        x.draw(0, 0, 0, -1);
        Due.is("broken(0, 8) while the first cell is empty", x.broken(0, 8), 0);
        x.draw(0, 0, 0, 1);
        Due.is("broken(0, 8)", x.broken(0, 8), 7);
        newCloth(x, 'p', "01111");
        Due.is("broken(1, 8) of one row", x.broken(1, 8), 4);
        newCloth(x, 'b', "01", "10", "22");
        Due.is("broken(2, 8) of two columns", x.broken(2, 8), 4);
    }

    private static void brokenGaps() {
        Beadslant x = PathsTest.rich();
        newCloth(x, 'l', "000", "000");
        x.work(0);
        Due.is("broken(0, 1)", x.broken(0, 1), 7);
        Due.is("snap(0, 3)", x.snap(0, 3), 2);
        Due.is("broken(0, 1) with gaps", x.broken(0, 1), 3);
        Due.is("broken(0, 2) with gaps", x.broken(0, 2), 1);
        Due.is("broken(0, 4) with gaps", x.broken(0, 4), 1);
        newCloth(x, 'b', "01", "11");
        x.work(1);
        Due.is("broken(1, 8)", x.broken(1, 8), 3);
        Due.is("snap(1, 0)", x.snap(1, 0), 1);
        Due.is("broken(1, 8), the first cell being a gap", x.broken(1, 8), 0);
    }

    private static void ways() {
        Beadslant x = withKinds();
        newCloth(x, 'l', "....", "..22");
        Due.is("ways(0, 1)", x.ways(0, 1), 1);
        Due.is("ways(0, 2)", x.ways(0, 2), 64);
        Due.is("ways(0, 4)", x.ways(0, 4), 4096);
        looks(x, 0, 4, 2, "..../..22");
        x.setRules(0, 1);
        Due.is("ways(0, 2), two ones beside being broken", x.ways(0, 2), 0);
        x.draw(0, 1, 3, 3);
        Due.is("ways(0, 1) of rule 1", x.ways(0, 1), 0);
        Due.is("ways(0, 2) of rule 1", x.ways(0, 2), 2);
        x.draw(0, 1, 3, -1);
        Due.fails(x, "ways with 7 empty cells", UnsupportedOperationException.class, () -> x.ways(0, 2));
        drawRows(x, 0, "0101", "1010");
        Due.is("ways of a full cloth", x.ways(0, 3), 1);
        x.draw(0, 1, 3, 1);
        Due.is("ways of a full cloth that breaks a rule", x.ways(0, 3), 0);
        x.setRules(0, 2);
        Due.is("ways of a full cloth that breaks slants", x.ways(0, 3), 0);
        x.setRules(0, 12);
        Due.is("ways of a full cloth that breaks the frame", x.ways(0, 3), 0);
        for (int kinds : new int[] {0, 5, -1, Integer.MAX_VALUE}) {
            Due.fails(x, "ways(0, " + kinds + ")", IllegalArgumentException.class, () -> x.ways(0, kinds));
            Due.fails(x, "fill(0, " + kinds + ")", IllegalArgumentException.class, () -> x.fill(0, kinds));
        }
        Due.fails(x, "ways(1, 0)", IndexOutOfBoundsException.class, () -> x.ways(1, 0));
        fewKindsAndNotDrawn();
    }

    private static void fewKindsAndNotDrawn() {
        Beadslant x = new Beadslant();
        x.addKind(0, 8, 2, 0);
        x.buy(0, 10);
        x.thread(999);
        x.addCloth('l', 2, 1);
        Due.fails(x, "ways with too few kinds", UnsupportedOperationException.class, () -> x.ways(0, 2));
        Due.fails(x, "fill with too few kinds", UnsupportedOperationException.class, () -> x.fill(0, 2));
        Due.is("ways(0, 1)", x.ways(0, 1), 1);
        Due.is("fill(0, 1)", x.fill(0, 1), 2);
        Due.is("fill(0, 1) of a full cloth", x.fill(0, 1), 0);
        x.work(0);
        Due.fails(x, "ways of a worked cloth", UnsupportedOperationException.class, () -> x.ways(0, 1));
        Due.fails(x, "fill of a worked cloth", UnsupportedOperationException.class, () -> x.fill(0, 1));
        Due.fails(x, "ways of a worked cloth, out of range", IllegalArgumentException.class, () -> x.ways(0, 0));
    }

    private static void waysKeepEachRule() {
        Beadslant x = withKinds();
        newCloth(x, 'l', "01.", "10.");
        x.setRules(0, 2);
        Due.is("ways of rule 2 where it is broken", x.ways(0, 4), 0);
        drawRows(x, 0, "00.", "11.");
        Due.is("ways of rule 2", x.ways(0, 2), 1);
        x.setRules(0, 4);
        Due.is("ways of rule 4", x.ways(0, 2), 1);
        x.setRules(0, 8);
        Due.is("ways of rule 8 where it is broken", x.ways(0, 2), 0);
        drawRows(x, 0, "...", "0..");
        x.draw(0, 0, 2, 4);
        Due.is("ways of rule 8", x.ways(0, 3), 1);
        drawRows(x, 0, ".22", "22.");
        Due.is("ways of rule 8 with the first cell empty", x.ways(0, 4), 1);
        x.setRules(0, 0);
        drawRows(x, 0, "...", "...");
        Due.is("ways of no rule", x.ways(0, 3), 729);
        x.setRules(0, 4);
        Due.is("ways of rule 4 of two rows", x.ways(0, 2), 36);
        x.setRules(0, 8);
        Due.is("ways of rule 8 of an empty cloth", x.ways(0, 3), 3);
        x.setRules(0, 1);
        Due.is("ways of rule 1 of an empty cloth", x.ways(0, 3), 54);
        waysByThrees(x);
        newCloth(x, 'l', ".0", "01");
        x.setRules(2, 8);
        Due.is("ways of rule 8 with one cell that breaks it", x.ways(2, 2), 0);
        x.draw(2, 1, 1, 4);
        Due.is("ways of rule 8 by the first cell", x.ways(2, 2), 1);
    }

    private static void waysByThrees(Beadslant x) {
        newCloth(x, 'b', "00.1100");
        x.setRules(1, 4);
        for (String row : new String[] {"00.1100", ".001100", "1.11001", "0.10011", "110.011",
            "11001.0", "11000.0", "110011.", "001100."}) {
            drawRows(x, 1, row);
            Due.is("ways of rule 4 of " + row, x.ways(1, 2), countWaysByThrees(row));
        }
    }

    private static int countWaysByThrees(String row) {
        int many = 0;
        for (char kind : new char[] {'0', '1'}) {
            String full = row.replace('.', kind);
            many += full.contains("000") || full.contains("111") ? 0 : 1;
        }
        return many;
    }

    private static void fill() {
        Beadslant x = withKinds();
        newCloth(x, 'l', "..", "..");
        newCloth(x, 'l', "...", "...", "...");
        x.setRules(0, 1);
        Due.is("fill(0, 4)", x.fill(0, 4), 4);
        looks(x, 0, 2, 2, "01/10");
        drawRows(x, 0, ".1", "..");
        x.setRules(0, 3);
        Due.fails(x, "fill(0, 3) without a way", NoSuchElementException.class, () -> x.fill(0, 3));
        looks(x, 0, 2, 2, ".1/..");
        Due.is("fill(0, 4)", x.fill(0, 4), 3);
        looks(x, 0, 2, 2, "01/23");
        Due.fails(x, "fill with 9 empty cells", UnsupportedOperationException.class, () -> x.fill(1, 2));
        drawRows(x, 1, "2..", "..2", "2.2");
        x.setRules(1, 8);
        Due.is("fill(1, 3) by rule 8", x.fill(1, 3), 5);
        looks(x, 1, 3, 3, "222/202/222");
        x.setRules(1, 4);
        Due.fails(x, "fill of a full cloth that breaks a rule", NoSuchElementException.class, () -> x.fill(1, 3));
        Due.fails(x, "fill(2, 0)", IndexOutOfBoundsException.class, () -> x.fill(2, 0));
        newCloth(x, 'p', "1.1.", "....");
        x.setRules(2, 1);
        Due.is("fill(2, 4) by peyote", x.fill(2, 4), 6);
        looks(x, 2, 4, 2, "1010/2121");
    }

    private static void repeat() {
        Beadslant x = withKinds();
        newCloth(x, 'l', "01010", "14141");
        Due.is("repeat(0)", x.repeat(0), 2);
        drawRows(x, 0, "01230", "00000");
        Due.is("repeat(0)", x.repeat(0), 4);
        drawRows(x, 0, "01231", "00000");
        Due.is("repeat(0), none lesser", x.repeat(0), 5);
        drawRows(x, 0, "04400", "33333");
        Due.is("repeat(0) of one colour in each row", x.repeat(0), 1);
        drawRows(x, 0, "01201", "01010");
        Due.is("repeat(0) of rows with unlike ones", x.repeat(0), 5);
        x.draw(0, 1, 4, -1);
        Due.fails(x, "repeat with an empty cell", UnsupportedOperationException.class, () -> x.repeat(0));
        Due.fails(x, "repeat(1)", IndexOutOfBoundsException.class, () -> x.repeat(1));
        Beadslant y = PathsTest.rich();
        newCloth(y, 'b', "01", "01");
        y.work(0);
        Due.is("repeat of a worked cloth", y.repeat(0), 2);
        y.snap(0, 0);
        Due.fails(y, "repeat with gaps", UnsupportedOperationException.class, () -> y.repeat(0));
        Due.fails(y, "isMirrored with gaps", UnsupportedOperationException.class, () -> y.isMirrored(0));
    }

    private static void isMirrored() {
        Beadslant x = withKinds();
        newCloth(x, 'l', "01210", "04140");
        Due.is("isMirrored(0)", x.isMirrored(0), true);
        x.draw(0, 1, 4, 1);
        Due.is("isMirrored(0)", x.isMirrored(0), false);
        newCloth(x, 'b', "0120", "0110");
        Due.is("isMirrored(1)", x.isMirrored(1), false);
        x.draw(1, 0, 2, 1);
        Due.is("isMirrored(1)", x.isMirrored(1), true);
        x.draw(1, 0, 2, -1);
        Due.fails(x, "isMirrored with an empty cell", UnsupportedOperationException.class, () -> x.isMirrored(1));
        Due.fails(x, "isMirrored(2)", IndexOutOfBoundsException.class, () -> x.isMirrored(2));
        Due.fails(x, "isMirrored(-1)", IndexOutOfBoundsException.class, () -> x.isMirrored(-1));
    }
}
