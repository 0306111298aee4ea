import java.util.NoSuchElementException;

/** A workshop of beads: kinds in stock, cloths, shapes, one string, words for colours, and sales. */
public final class Beadslant {

    private static final int NONE = -1;
    private static final int MAX_CLOTHS = 6;
    private static final int MAX_SHAPES = 4;
    private static final int MAX_STOCK = 99999;
    private static final int MAX_THREAD = 999999;
    private static final int MAX_COLOUR = 7;
    private static final int MAX_REGION = 2;
    private static final int MAX_CHOICE = 4;
    private static final int LOSS_BY_BREACH = 3;

    private final Kinds kinds = new Kinds();
    private final Cloth[] cloths = new Cloth[MAX_CLOTHS];
    private final Shape[] shapes = new Shape[MAX_SHAPES];
    private final Strand strand = new Strand();
    private final Words words = new Words();
    private final Filler filler = new Filler();
    private int clothCount;
    private int shapeCount;
    private int threadLeft;
    private int balance;
    private int bought;
    private int lost;

    public Beadslant() {
    }

    // ---- beads ----

    public int addKind(int colour, int width, int hole, int price)
            throws IllegalArgumentException, IllegalStateException {
        requireRange(colour, 0, MAX_COLOUR);
        requireRange(width, 8, 30);
        requireRange(hole, 2, 9);
        requireRange(price, 0, 99);
        if (kinds.isFull()) {
            throw new IllegalStateException("there are 8 kinds");
        }
        return kinds.put(colour, width, hole, price);
    }

    public int buy(int kind, int many)
            throws IndexOutOfBoundsException, IllegalArgumentException, IllegalStateException {
        requireKind(kind);
        requireRange(many, 1, 999);
        if (kinds.stockOf(kind) + many > MAX_STOCK) {
            throw new IllegalStateException("too many beads in stock");
        }
        kinds.changeStock(kind, many);
        bought += many;
        balance -= many * kinds.priceOf(kind);
        return kinds.stockOf(kind);
    }

    public int stock(int kind) throws IndexOutOfBoundsException {
        requireKind(kind);
        return kinds.stockOf(kind);
    }

    public int thread(int length) throws IllegalArgumentException, IllegalStateException {
        requireRange(length, 0, 9999);
        if (threadLeft + length > MAX_THREAD) {
            throw new IllegalStateException("too much thread");
        }
        threadLeft += length;
        return threadLeft;
    }

    // ---- cloths ----

    public int addCloth(char stitch, int columns, int rows)
            throws IllegalArgumentException, IllegalStateException {
        if (!Weave.isStitch(stitch)) {
            throw new IllegalArgumentException("no such stitch");
        }
        requireRange(columns, 2, Cloth.MOST_COLUMNS);
        requireRange(rows, 1, Cloth.MOST_ROWS);
        if (clothCount >= MAX_CLOTHS) {
            throw new IllegalStateException("there are 6 cloths");
        }
        cloths[clothCount] = new Cloth(kinds, stitch, columns, rows);
        clothCount++;
        return clothCount - 1;
    }

    public char state(int cloth) throws IndexOutOfBoundsException {
        return clothOf(cloth).state;
    }

    public int draw(int cloth, int row, int column, int kind)
            throws IndexOutOfBoundsException, UnsupportedOperationException {
        Cloth found = clothOf(cloth);
        requirePlace(found, row, column);
        if (kind != NONE) {
            requireKind(kind);
        }
        requireDrawn(found);
        int cell = found.cellOf(row, column);
        int before = found.kindIn(cell);
        found.put(cell, kind);
        return before;
    }

    public int kindAt(int cloth, int row, int column) throws IndexOutOfBoundsException {
        Cloth found = clothOf(cloth);
        requirePlace(found, row, column);
        return found.kindIn(found.cellOf(row, column));
    }

    public int motif(int cloth, int wide, int high, int lean)
            throws IndexOutOfBoundsException, IllegalArgumentException, UnsupportedOperationException {
        Cloth found = clothOf(cloth);
        requireRange(wide, 1, found.columns);
        requireRange(high, 1, found.rows);
        requireRange(lean, -12, 12);
        requireDrawn(found);
        if (found.hasEmptyWithin(wide, high)) {
            throw new UnsupportedOperationException("a cell of the block is empty");
        }
        return found.spread(wide, high, lean);
    }

    public int setRules(int cloth, int rules) throws IndexOutOfBoundsException, IllegalArgumentException {
        Cloth found = clothOf(cloth);
        requireRange(rules, 0, Rules.ALL);
        int before = found.rules;
        found.rules = rules;
        return before;
    }

    public int broken(int cloth, int rule) throws IndexOutOfBoundsException, IllegalArgumentException {
        Cloth found = clothOf(cloth);
        if (!Rules.isOne(rule)) {
            throw new IllegalArgumentException("no such rule");
        }
        return Rules.countBreaches(found, rule);
    }

    public int ways(int cloth, int kinds)
            throws IndexOutOfBoundsException, IllegalArgumentException, UnsupportedOperationException {
        Cloth found = clothOf(cloth);
        requireFillable(found, kinds);
        return filler.tryWays(found, kinds, false);
    }

    public int fill(int cloth, int kinds) throws IndexOutOfBoundsException, IllegalArgumentException,
            UnsupportedOperationException, NoSuchElementException {
        Cloth found = clothOf(cloth);
        requireFillable(found, kinds);
        int empty = found.countOf(NONE);
        if (filler.tryWays(found, kinds, true) < 1) {
            throw new NoSuchElementException("there is no way");
        }
        return empty;
    }

    public int repeat(int cloth) throws IndexOutOfBoundsException, UnsupportedOperationException {
        Cloth found = clothOf(cloth);
        requireFull(found);
        return Chart.leastRepeat(found);
    }

    public boolean isMirrored(int cloth) throws IndexOutOfBoundsException, UnsupportedOperationException {
        Cloth found = clothOf(cloth);
        requireFull(found);
        return Chart.readsAlikeBack(found);
    }

    // ---- paths and snaps ----

    public int pathLength(int cloth) throws IndexOutOfBoundsException {
        return clothOf(cloth).path.length();
    }

    public int passAt(int cloth, int place) throws IndexOutOfBoundsException, NoSuchElementException {
        Cloth found = clothOf(cloth);
        requirePass(found, place);
        return found.path.cellAt(place);
    }

    public int work(int cloth) throws IndexOutOfBoundsException, UnsupportedOperationException {
        Cloth found = clothOf(cloth);
        requireDrawn(found);
        requireFull(found);
        int needed = found.threadNeeded();
        if (found.lacksBeads() || found.isPassedTooOften() || needed > threadLeft) {
            throw new UnsupportedOperationException("beads lack, a hole is too narrow, or the thread is too short");
        }
        found.takeBeads();
        found.state = Cloth.WORKED;
        threadLeft -= needed;
        return threadLeft;
    }

    public int passes(int cloth, int row, int column)
            throws IndexOutOfBoundsException, UnsupportedOperationException {
        Cloth found = clothOf(cloth);
        requirePlace(found, row, column);
        if (found.state == Cloth.DRAWN) {
            throw new UnsupportedOperationException("it is drawn");
        }
        return found.passesOf(found.cellOf(row, column));
    }

    public int snap(int cloth, int place)
            throws IndexOutOfBoundsException, NoSuchElementException, UnsupportedOperationException {
        Cloth found = clothOf(cloth);
        requirePass(found, place);
        requireWorked(found);
        int fallen = found.dropAround(place);
        lost += fallen;
        return fallen;
    }

    public int mend(int cloth) throws IndexOutOfBoundsException, UnsupportedOperationException {
        Cloth found = clothOf(cloth);
        if (found.state != Cloth.GAPPED) {
            throw new UnsupportedOperationException("it has no gaps");
        }
        if (found.lacksBeadsForGaps() || found.isTooNarrowToMend()) {
            throw new UnsupportedOperationException("beads lack, or a hole is too narrow");
        }
        return found.closeGaps();
    }

    public int rowWidth(int cloth, int row) throws IndexOutOfBoundsException {
        Cloth found = clothOf(cloth);
        requireRow(found, row);
        return found.widthOfRow(row);
    }

    public int lean(int cloth) throws IndexOutOfBoundsException {
        Cloth found = clothOf(cloth);
        int widest = found.widthOfRow(0);
        int narrowest = widest;
        for (int row = 1; row < found.rows; row++) {
            int width = found.widthOfRow(row);
            widest = Math.max(widest, width);
            narrowest = Math.min(narrowest, width);
        }
        return widest - narrowest;
    }

    // ---- rounds and the string ----

    public int addShape() throws IllegalStateException {
        if (shapeCount >= MAX_SHAPES) {
            throw new IllegalStateException("there are 4 shapes");
        }
        shapes[shapeCount] = new Shape();
        shapeCount++;
        return shapeCount - 1;
    }

    public int addRound(int shape, int beads)
            throws IndexOutOfBoundsException, IllegalArgumentException, IllegalStateException {
        Shape found = shapeOf(shape);
        requireRange(beads, 1, 199);
        if (found.isFull()) {
            throw new IllegalStateException("there are 20 rounds");
        }
        return found.put(beads);
    }

    public int bend(int shape, int round) throws IndexOutOfBoundsException, NoSuchElementException {
        Shape found = shapeOf(shape);
        if (!found.hasBend(round)) {
            throw new NoSuchElementException("no such round, or the first one");
        }
        return found.bendOf(round);
    }

    public char form(int shape) throws IndexOutOfBoundsException {
        return shapeOf(shape).look();
    }

    public int string(int kind)
            throws IndexOutOfBoundsException, UnsupportedOperationException, IllegalStateException {
        requireKind(kind);
        if (kinds.stockOf(kind) < 1) {
            throw new UnsupportedOperationException("none is in stock");
        }
        if (strand.isFull()) {
            throw new IllegalStateException("there are 144 beads");
        }
        kinds.changeStock(kind, -1);
        strand.put(kind);
        return strand.size();
    }

    public int strung(int place) throws NoSuchElementException {
        requireStrung(place);
        return strand.kindFromEnd(place);
    }

    public int breakBead(int place) throws NoSuchElementException {
        requireStrung(place);
        strand.takeFromEnd(place);
        lost++;
        return strand.size();
    }

    public int wrongAt(int cloth)
            throws IndexOutOfBoundsException, UnsupportedOperationException, NoSuchElementException {
        Cloth found = clothOf(cloth);
        requireDrawn(found);
        int wrong = strand.firstWrong(found);
        if (wrong == NONE) {
            throw new NoSuchElementException("the string is not wrong");
        }
        return wrong;
    }

    public int crochet(int cloth) throws IndexOutOfBoundsException, UnsupportedOperationException {
        Cloth found = clothOf(cloth);
        requireDrawn(found);
        if (strand.firstWrong(found) != NONE) {
            throw new UnsupportedOperationException("the string is wrong");
        }
        int many = strand.size();
        strand.moveInto(found);
        return many;
    }

    // ---- words, charts and copies ----

    public int setWord(int region, int colour, int word) throws IllegalArgumentException {
        requireRange(region, 0, MAX_REGION);
        requireRange(colour, 0, MAX_COLOUR);
        requireRange(word, 0, 9);
        int before = words.wordFor(region, colour);
        words.put(region, colour, word);
        return before;
    }

    public boolean isClear(int region) throws IllegalArgumentException {
        requireRange(region, 0, MAX_REGION);
        return words.areUnlike(region);
    }

    public int runs(int cloth, int row) throws IndexOutOfBoundsException {
        Cloth found = clothOf(cloth);
        requireRow(found, row);
        return Chart.countRuns(found, row);
    }

    public int runLength(int cloth, int row, int run, boolean isLeft)
            throws IndexOutOfBoundsException, NoSuchElementException {
        Cloth found = clothOf(cloth);
        requireRow(found, row);
        int begin = beginOfRun(found, row, run, isLeft);
        return Chart.cellsFrom(found, row, begin, isLeft);
    }

    public int runColour(int cloth, int row, int run, boolean isLeft)
            throws IndexOutOfBoundsException, NoSuchElementException {
        Cloth found = clothOf(cloth);
        requireRow(found, row);
        return found.colourAt(row, beginOfRun(found, row, run, isLeft));
    }

    public int runWord(int cloth, int row, int run, int region)
            throws IndexOutOfBoundsException, IllegalArgumentException, NoSuchElementException {
        Cloth found = clothOf(cloth);
        requireRow(found, row);
        requireRange(region, 0, MAX_REGION);
        int colour = found.colourAt(row, beginOfRun(found, row, run, false));
        return words.wordFor(region, colour);
    }

    public int shared(int cloth, int other, int original)
            throws IndexOutOfBoundsException, UnsupportedOperationException {
        Cloth one = clothOf(cloth);
        Cloth two = clothOf(other);
        Cloth third = clothOf(original);
        if (!one.isLike(two) || !one.isLike(third)) {
            throw new UnsupportedOperationException("not of one stitch and size");
        }
        return Chart.countSharedErrors(one, two, third);
    }

    public int guess(int cloth, int row, int column, int repeat)
            throws IndexOutOfBoundsException, IllegalArgumentException, NoSuchElementException {
        Cloth found = clothOf(cloth);
        requirePlace(found, row, column);
        requireRange(repeat, 1, 12);
        int colour = Chart.mostFrequent(found, row, column, repeat);
        if (colour == NONE) {
            throw new NoSuchElementException("no beads to guess by");
        }
        return colour;
    }

    // ---- sales and sums ----

    public int sell(int cloth) throws IndexOutOfBoundsException, UnsupportedOperationException {
        Cloth found = clothOf(cloth);
        requireWorked(found);
        int brings = 2 * found.priceOfBeads() - LOSS_BY_BREACH * Rules.countOwnBreaches(found);
        found.state = Cloth.SOLD;
        balance += brings;
        return brings;
    }

    public int money() {
        return balance;
    }

    public int account(char kind) throws IllegalArgumentException {
        switch (kind) {
            case 'b':
                return bought;
            case 's':
                return kinds.wholeStock();
            case 't':
                return strand.size();
            case 'c':
                return beadsInCloths(Cloth.WORKED) + beadsInCloths(Cloth.GAPPED);
            case 'x':
                return beadsInCloths(Cloth.SOLD);
            case 'l':
                return lost;
            default:
                throw new IllegalArgumentException("no such account");
        }
    }

    public float share(int cloth, int colour)
            throws IndexOutOfBoundsException, IllegalArgumentException, NoSuchElementException {
        return shareOf(clothOf(cloth), colour);
    }

    public int shareBits(int cloth, int colour)
            throws IndexOutOfBoundsException, IllegalArgumentException, NoSuchElementException {
        return bitsOf(shareOf(clothOf(cloth), colour));
    }

    public long checksum() {
        long sum = 7;
        for (int kind = 0; kind < kinds.size(); kind++) {
            sum = 31 * sum + kinds.stockOf(kind);
        }
        for (int i = 0; i < clothCount; i++) {
            sum = clothOf(i).addTo(sum);
        }
        for (int place = strand.size() - 1; place >= 0; place--) {
            sum = 31 * sum + strand.kindFromEnd(place);
        }
        sum = 31 * sum + threadLeft;
        return 31 * sum + balance;
    }

    public double meanWidth() throws NoSuchElementException {
        int many = kinds.wholeStock();
        if (many < 1) {
            throw new NoSuchElementException("none is in stock");
        }
        return (double) kinds.wholeWidth() / (double) many;
    }

    public boolean isSound() {
        int standing = kinds.wholeStock() + strand.size() + beadsInCloths(Cloth.WORKED)
                + beadsInCloths(Cloth.GAPPED) + beadsInCloths(Cloth.SOLD);
        if (standing + lost != bought) {
            return false;
        }
        for (int i = 0; i < clothCount; i++) {
            if (!clothOf(i).holdsTogether()) {
                return false;
            }
        }
        return true;
    }

    // ---- what the calls ask of their arguments ----

    private static void requireRange(int value, int least, int most) {
        if (value < least || value > most) {
            throw new IllegalArgumentException("a number is out of range");
        }
    }

    private void requireKind(int kind) {
        if (!kinds.has(kind)) {
            throw new IndexOutOfBoundsException("no such kind");
        }
    }

    private Cloth clothOf(int cloth) {
        Cloth found = cloth >= 0 && cloth < clothCount && cloth < MAX_CLOTHS ? cloths[cloth] : null;
        if (found == null) {
            throw new IndexOutOfBoundsException("no such cloth");
        }
        return found;
    }

    private Shape shapeOf(int shape) {
        Shape found = shape >= 0 && shape < shapeCount && shape < MAX_SHAPES ? shapes[shape] : null;
        if (found == null) {
            throw new IndexOutOfBoundsException("no such shape");
        }
        return found;
    }

    private static void requireRow(Cloth cloth, int row) {
        if (row < 0 || row >= cloth.rows) {
            throw new IndexOutOfBoundsException("no such row");
        }
    }

    private static void requirePlace(Cloth cloth, int row, int column) {
        if (!cloth.hasPlace(row, column)) {
            throw new IndexOutOfBoundsException("no such place");
        }
    }

    private static void requirePass(Cloth cloth, int place) {
        if (place < 0 || place >= cloth.path.length()) {
            throw new NoSuchElementException("no such place in the path");
        }
    }

    private static void requireDrawn(Cloth cloth) {
        if (cloth.state != Cloth.DRAWN) {
            throw new UnsupportedOperationException("it is not drawn");
        }
    }

    private static void requireWorked(Cloth cloth) {
        if (cloth.state != Cloth.WORKED) {
            throw new UnsupportedOperationException("it is not worked");
        }
    }

    private static void requireFull(Cloth cloth) {
        if (cloth.countOf(NONE) > 0) {
            throw new UnsupportedOperationException("a cell is empty, or a gap");
        }
    }

    private void requireFillable(Cloth cloth, int choice) {
        requireRange(choice, 1, MAX_CHOICE);
        requireDrawn(cloth);
        if (cloth.countOf(NONE) > Filler.MOST || choice > kinds.size()) {
            throw new UnsupportedOperationException("too many cells are empty, or too few kinds");
        }
    }

    private void requireStrung(int place) {
        if (place < 0 || place >= strand.size()) {
            throw new NoSuchElementException("no such place on the string");
        }
    }

    private static int beginOfRun(Cloth cloth, int row, int run, boolean isLeft) {
        int begin = Chart.findRun(cloth, row, run, isLeft);
        if (begin == NONE) {
            throw new NoSuchElementException("no such run");
        }
        return begin;
    }

    private static float shareOf(Cloth cloth, int colour) {
        requireRange(colour, 0, MAX_COLOUR);
        int all = cloth.size() - cloth.countOf(NONE);
        if (all < 1) {
            throw new NoSuchElementException("it has no beads");
        }
        return (float) cloth.countColour(colour) / (float) all;
    }

    /** The bits of a share of 0, or of 1/144 to 1: doubling it up to 1 loses nothing. */
    private static int bitsOf(float share) {
        if (share <= 0f) {
            return 0;
        }
        float scaled = share;
        int exponent = 127;
        while (scaled < 1f && exponent > 1) {
            scaled = scaled * 2f;
            exponent--;
        }
        int fraction = (int) (scaled * 8388608f) - 8388608;
        return (exponent << 23) | fraction;
    }

    private int beadsInCloths(char state) {
        int beads = 0;
        for (int i = 0; i < clothCount; i++) {
            Cloth cloth = clothOf(i);
            if (cloth.state == state) {
                beads += cloth.size() - cloth.countOf(NONE);
            }
        }
        return beads;
    }

    /** The kinds of beads, each with its stock. */
    private static final class Kinds {
        private static final int MOST = 8;

        private final int[] colours = new int[MOST];
        private final int[] widths = new int[MOST];
        private final int[] holes = new int[MOST];
        private final int[] prices = new int[MOST];
        private final int[] stocks = new int[MOST];
        private int count;

        int size() {
            return count;
        }

        boolean isFull() {
            return count >= MOST;
        }

        boolean has(int kind) {
            return kind >= 0 && kind < count && kind < MOST;
        }

        int put(int colour, int width, int hole, int price) {
            if (isFull()) {
                return NONE;
            }
            colours[count] = colour;
            widths[count] = width;
            holes[count] = hole;
            prices[count] = price;
            count++;
            return count - 1;
        }

        int colourOf(int kind) {
            return has(kind) ? colours[kind] : NONE;
        }

        int widthOf(int kind) {
            return has(kind) ? widths[kind] : 0;
        }

        int holeOf(int kind) {
            return has(kind) ? holes[kind] : 0;
        }

        int priceOf(int kind) {
            return has(kind) ? prices[kind] : 0;
        }

        int stockOf(int kind) {
            return has(kind) ? stocks[kind] : 0;
        }

        void changeStock(int kind, int by) {
            if (has(kind)) {
                stocks[kind] += by;
            }
        }

        int wholeStock() {
            int sum = 0;
            for (int kind = 0; kind < count; kind++) {
                sum += stockOf(kind);
            }
            return sum;
        }

        int wholeWidth() {
            int sum = 0;
            for (int kind = 0; kind < count; kind++) {
                sum += widthOf(kind) * stockOf(kind);
            }
            return sum;
        }
    }

    /** What a stitch makes of two cells that touch. */
    private static final class Weave {
        private static final char LOOM = 'l';
        private static final char PEYOTE = 'p';
        private static final char BRICK = 'b';

        static boolean isStitch(char stitch) {
            return stitch == LOOM || stitch == PEYOTE || stitch == BRICK;
        }

        /** Down and right are -1, 0 or 1 and lead from the cell to the other one. */
        static boolean areNeighbours(Cloth cloth, int row, int column, int down, int right) {
            if (down == 0 || right == 0) {
                return down != right;
            }
            if (cloth.stitch == PEYOTE) {
                return down == ((column & 1) == 1 ? 1 : -1);
            }
            if (cloth.stitch == BRICK) {
                return right == ((row & 1) == 1 ? 1 : -1);
            }
            return false;
        }

        /** Of two cells that are neighbours or not: whether they are a slant. */
        static boolean isSlant(Cloth cloth, boolean areNeighbours, int down, int right) {
            if (cloth.stitch == PEYOTE) {
                return areNeighbours && right != 0;
            }
            if (cloth.stitch == BRICK) {
                return areNeighbours && down != 0;
            }
            return down != 0 && right != 0;
        }
    }

    /** The cells through which the needle goes, in turn. */
    private static final class Path {
        private final int[] cells;
        private int count;

        /** No stitch passes a cell more than twice, so that the row never is too short. */
        Path(char stitch, int columns, int rows) {
            int most = 2 * columns * rows;
            cells = new int[most > 0 ? most : 0];
            for (int row = 0; row < rows; row++) {
                if (stitch == Weave.LOOM) {
                    goForthAndBack(row * columns, columns);
                } else if (stitch == Weave.PEYOTE) {
                    goThroughEven(row, columns);
                    goThroughOdd(row * columns, columns);
                } else {
                    goTwiceThroughEach(row, columns);
                }
            }
        }

        private void goThrough(int cell) {
            if (count < cells.length) {
                cells[count] = cell;
                count++;
            }
        }

        private void goForthAndBack(int first, int columns) {
            for (int column = 0; column < columns; column++) {
                goThrough(first + column);
            }
            for (int column = columns - 1; column >= 0; column--) {
                goThrough(first + column);
            }
        }

        private void goThroughEven(int row, int columns) {
            for (int column = 0; column < columns; column += 2) {
                goThrough(row * columns + column);
                if (row > 0 && column + 1 < columns) {
                    goThrough((row - 1) * columns + column + 1);
                }
            }
        }

        private void goThroughOdd(int first, int columns) {
            int lastOdd = (columns & 1) == 0 ? columns - 1 : columns - 2;
            for (int column = lastOdd; column > 0; column -= 2) {
                goThrough(first + column);
                goThrough(first + column - 1);
            }
        }

        private void goTwiceThroughEach(int row, int columns) {
            for (int i = 0; i < columns; i++) {
                int column = (row & 1) == 0 ? i : columns - 1 - i;
                goThrough(row * columns + column);
                goThrough(row * columns + column);
            }
        }

        int length() {
            return count;
        }

        int cellAt(int place) {
            return place >= 0 && place < count && place < cells.length ? cells[place] : NONE;
        }

        boolean isOnlyNear(int cell, int near, int reach) {
            for (int place = 0; place < count; place++) {
                if (cellAt(place) == cell && (place < near - reach || place > near + reach)) {
                    return false;
                }
            }
            return true;
        }
    }

    /** A cloth: its cells row by row, how often the needle passes each, and which of them are gaps. */
    private static final class Cloth {
        private static final int MOST_COLUMNS = 12;
        private static final int MOST_ROWS = 12;
        private static final int SNAP_REACH = 2;
        private static final int PASSES_OF_NEW = 2;
        private static final char DRAWN = 'd';
        private static final char WORKED = 'w';
        private static final char GAPPED = 'g';
        private static final char SOLD = 's';

        private final Kinds kinds;
        private final char stitch;
        private final int columns;
        private final int rows;
        private final Path path;
        private final int[] cellKinds;
        private final int[] cellColours;
        private final int[] gapKinds;
        private final int[] passCounts;
        private char state = DRAWN;
        private int rules;

        Cloth(Kinds kinds, char stitch, int columns, int rows) {
            this.kinds = kinds;
            this.stitch = stitch;
            this.columns = columns;
            this.rows = rows;
            path = new Path(stitch, columns, rows);
            int size = columns * rows > 0 ? columns * rows : 0;
            cellKinds = new int[size];
            cellColours = new int[size];
            gapKinds = new int[size];
            passCounts = new int[size];
            for (int cell = 0; cell < size; cell++) {
                cellKinds[cell] = NONE;
                cellColours[cell] = NONE;
                gapKinds[cell] = NONE;
            }
            for (int place = 0; place < path.length(); place++) {
                int cell = path.cellAt(place);
                setPasses(cell, passesOf(cell) + 1);
            }
        }

        int size() {
            return cellKinds.length;
        }

        boolean isLike(Cloth other) {
            return stitch == other.stitch && columns == other.columns && rows == other.rows;
        }

        boolean hasPlace(int row, int column) {
            return row >= 0 && row < rows && column >= 0 && column < columns;
        }

        int cellOf(int row, int column) {
            return row * columns + column;
        }

        int kindIn(int cell) {
            return cell >= 0 && cell < cellKinds.length ? cellKinds[cell] : NONE;
        }

        int colourIn(int cell) {
            return cell >= 0 && cell < cellColours.length ? cellColours[cell] : NONE;
        }

        private int gapKindIn(int cell) {
            return cell >= 0 && cell < gapKinds.length ? gapKinds[cell] : NONE;
        }

        int passesOf(int cell) {
            return cell >= 0 && cell < passCounts.length ? passCounts[cell] : 0;
        }

        /** NONE also outside of the cloth, so that callers may look beyond its edges. */
        int colourAt(int row, int column) {
            int cell = row * columns + column;
            boolean isInside = row >= 0 && row < rows && column >= 0 && column < columns;
            return isInside && cell >= 0 && cell < cellColours.length ? cellColours[cell] : NONE;
        }

        void put(int cell, int kind) {
            if (cell >= 0 && cell < cellKinds.length && cell < cellColours.length) {
                cellKinds[cell] = kind;
                cellColours[cell] = kinds.colourOf(kind);
            }
        }

        private void setPasses(int cell, int passes) {
            if (cell >= 0 && cell < passCounts.length) {
                passCounts[cell] = passes;
            }
        }

        private void setGap(int cell, int kind) {
            if (cell >= 0 && cell < gapKinds.length) {
                gapKinds[cell] = kind;
            }
        }

        int countOf(int kind) {
            int many = 0;
            for (int cell = 0; cell < size(); cell++) {
                if (kindIn(cell) == kind) {
                    many++;
                }
            }
            return many;
        }

        int countColour(int colour) {
            int many = 0;
            for (int cell = 0; cell < size(); cell++) {
                if (colourIn(cell) == colour) {
                    many++;
                }
            }
            return many;
        }

        int widthOfRow(int row) {
            int width = 0;
            for (int column = 0; column < columns; column++) {
                width += kinds.widthOf(kindIn(cellOf(row, column)));
            }
            return width;
        }

        int priceOfBeads() {
            int price = 0;
            for (int cell = 0; cell < size(); cell++) {
                price += kinds.priceOf(kindIn(cell));
            }
            return price;
        }

        boolean hasEmptyWithin(int wide, int high) {
            for (int row = 0; row < high; row++) {
                for (int column = 0; column < wide; column++) {
                    if (kindIn(cellOf(row, column)) == NONE) {
                        return true;
                    }
                }
            }
            return false;
        }

        /** The block's own cells keep their kinds, so that it can be read while it is spread. */
        int spread(int wide, int high, int slope) {
            if (wide < 1 || high < 1) {
                return 0;
            }
            int changed = 0;
            for (int row = 0; row < rows; row++) {
                for (int column = 0; column < columns; column++) {
                    int from = Math.floorMod(column - slope * (row / high), wide);
                    int kind = kindIn(cellOf(row % high, from));
                    int cell = cellOf(row, column);
                    if (kindIn(cell) != kind) {
                        put(cell, kind);
                        changed++;
                    }
                }
            }
            return changed;
        }

        int threadNeeded() {
            int needed = 0;
            for (int place = 0; place < path.length(); place++) {
                needed += kinds.widthOf(kindIn(path.cellAt(place)));
            }
            return needed;
        }

        boolean lacksBeads() {
            for (int kind = 0; kind < kinds.size(); kind++) {
                if (countOf(kind) > kinds.stockOf(kind)) {
                    return true;
                }
            }
            return false;
        }

        boolean isPassedTooOften() {
            for (int cell = 0; cell < size(); cell++) {
                int kind = kindIn(cell);
                if (kind != NONE && passesOf(cell) > kinds.holeOf(kind)) {
                    return true;
                }
            }
            return false;
        }

        void takeBeads() {
            for (int cell = 0; cell < size(); cell++) {
                kinds.changeStock(kindIn(cell), -1);
            }
        }

        void putPassedTwice(int cell, int kind) {
            put(cell, kind);
            setPasses(cell, PASSES_OF_NEW);
        }

        /** Returns how many beads fall. */
        int dropAround(int near) {
            int fallen = 0;
            for (int place = near - SNAP_REACH; place <= near + SNAP_REACH; place++) {
                int cell = path.cellAt(place);
                int kind = kindIn(cell);
                if (kind != NONE && path.isOnlyNear(cell, near, SNAP_REACH)) {
                    put(cell, NONE);
                    setGap(cell, kind);
                    setPasses(cell, 0);
                    fallen++;
                }
            }
            if (fallen > 0) {
                state = GAPPED;
            }
            return fallen;
        }

        boolean lacksBeadsForGaps() {
            for (int kind = 0; kind < kinds.size(); kind++) {
                int needed = 0;
                for (int cell = 0; cell < size(); cell++) {
                    if (gapKindIn(cell) == kind) {
                        needed++;
                    }
                }
                if (needed > kinds.stockOf(kind)) {
                    return true;
                }
            }
            return false;
        }

        private int gapsBeside(int cell) {
            int row = cell / Math.max(columns, 1);
            int column = cell - row * columns;
            int gaps = 0;
            for (int down = -1; down <= 1; down++) {
                for (int right = -1; right <= 1; right++) {
                    if (Weave.areNeighbours(this, row, column, down, right)
                            && hasPlace(row + down, column + right)
                            && gapKindIn(cellOf(row + down, column + right)) != NONE) {
                        gaps++;
                    }
                }
            }
            return gaps;
        }

        boolean isTooNarrowToMend() {
            for (int cell = 0; cell < size(); cell++) {
                int kind = kindIn(cell);
                if (kind != NONE && passesOf(cell) + gapsBeside(cell) > kinds.holeOf(kind)) {
                    return true;
                }
            }
            return false;
        }

        /** The neighbours come first: they are counted while the gaps are still open. */
        int closeGaps() {
            for (int cell = 0; cell < size(); cell++) {
                if (kindIn(cell) != NONE) {
                    setPasses(cell, passesOf(cell) + gapsBeside(cell));
                }
            }
            int closed = 0;
            for (int cell = 0; cell < size(); cell++) {
                int kind = gapKindIn(cell);
                if (kind != NONE) {
                    kinds.changeStock(kind, -1);
                    putPassedTwice(cell, kind);
                    setGap(cell, NONE);
                    closed++;
                }
            }
            state = WORKED;
            return closed;
        }

        boolean holdsTogether() {
            if (state == DRAWN) {
                return true;
            }
            return !(state == WORKED && countOf(NONE) > 0) && !isPassedTooOften();
        }

        long addTo(long before) {
            long sum = before;
            for (int cell = 0; cell < size(); cell++) {
                sum = 31 * sum + kindIn(cell) + 1;
            }
            return 31 * sum + state;
        }
    }

    /** The rules of patterns, and what breaks them. */
    private static final class Rules {
        private static final int NEIGHBOURS = 1;
        private static final int SLANTS = 2;
        private static final int THREES = 4;
        private static final int FRAME = 8;
        private static final int ALL = 15;

        static boolean isOne(int rule) {
            return rule == NEIGHBOURS || rule == SLANTS || rule == THREES || rule == FRAME;
        }

        static int countBreaches(Cloth cloth, int rule) {
            int breaches = 0;
            for (int row = 0; row < cloth.rows; row++) {
                for (int column = 0; column < cloth.columns; column++) {
                    if (rule == THREES) {
                        breaches += isThree(cloth, row, column) ? 1 : 0;
                    } else if (rule == FRAME) {
                        breaches += leavesFrame(cloth, row, column) ? 1 : 0;
                    } else {
                        breaches += countTwos(cloth, rule, row, column);
                    }
                }
            }
            // Each two was counted at both of its cells.
            return rule == NEIGHBOURS || rule == SLANTS ? breaches / 2 : breaches;
        }

        static int countOwnBreaches(Cloth cloth) {
            int breaches = 0;
            for (int rule = NEIGHBOURS; rule <= FRAME; rule *= 2) {
                if ((cloth.rules & rule) != 0) {
                    breaches += countBreaches(cloth, rule);
                }
            }
            return breaches;
        }

        /** Counts the twos of a cell that break any of the rules. */
        private static int countTwos(Cloth cloth, int rules, int row, int column) {
            int colour = cloth.colourAt(row, column);
            int twos = 0;
            for (int down = -1; down <= 1; down++) {
                for (int right = -1; right <= 1; right++) {
                    if (colour == NONE || colour != cloth.colourAt(row + down, column + right)) {
                        continue;
                    }
                    boolean areNeighbours = Weave.areNeighbours(cloth, row, column, down, right);
                    if ((rules & NEIGHBOURS) != 0 && areNeighbours
                            || (rules & SLANTS) != 0 && Weave.isSlant(cloth, areNeighbours, down, right)) {
                        twos++;
                    }
                }
            }
            return twos;
        }

        private static boolean isThree(Cloth cloth, int row, int column) {
            int colour = cloth.colourAt(row, column);
            return colour != NONE && colour == cloth.colourAt(row, column + 1)
                    && colour == cloth.colourAt(row, column + 2);
        }

        private static boolean leavesFrame(Cloth cloth, int row, int column) {
            if (row > 0 && row < cloth.rows - 1 && column > 0 && column < cloth.columns - 1) {
                return false;
            }
            int first = cloth.colourAt(0, 0);
            int colour = cloth.colourAt(row, column);
            return first != NONE && colour != NONE && colour != first;
        }

        /** Whether the bead of a cell breaks a rule of its cloth, together with any other one. */
        static boolean isBrokenAt(Cloth cloth, int row, int column) {
            int rules = cloth.rules;
            if ((rules & (NEIGHBOURS | SLANTS)) != 0 && countTwos(cloth, rules, row, column) > 0) {
                return true;
            }
            if ((rules & THREES) != 0 && (isThree(cloth, row, column - 2) || isThree(cloth, row, column - 1)
                    || isThree(cloth, row, column))) {
                return true;
            }
            if ((rules & FRAME) == 0) {
                return false;
            }
            return row == 0 && column == 0 ? countBreaches(cloth, FRAME) > 0 : leavesFrame(cloth, row, column);
        }
    }

    /** Tries the ways to fill the empty cells of a cloth, the first ones first. */
    private static final class Filler {
        private static final int MOST = 6;
        // Four kinds in six cells are tried in some 11,000 steps at most.
        private static final int MOST_STEPS = 1000000;

        private final int[] empties = new int[MOST];
        private int count;

        private void findEmpties(Cloth cloth) {
            count = 0;
            for (int cell = 0; cell < cloth.size(); cell++) {
                if (cloth.kindIn(cell) == NONE && count < MOST) {
                    empties[count] = cell;
                    count++;
                }
            }
        }

        /**
         * Counts the ways; or leaves the first one in the cloth and returns 1, or 0 if there is none.
         * What is drawn already has to keep the rules too; then only the new beads can break them.
         */
        int tryWays(Cloth cloth, int choice, boolean isFirstEnough) {
            if (Rules.countOwnBreaches(cloth) > 0) {
                return 0;
            }
            findEmpties(cloth);
            int found = 0;
            int depth = 0;
            for (int step = 0; step < MOST_STEPS && depth >= 0; step++) {
                if (depth >= count || depth >= MOST) {
                    found++;
                    if (isFirstEnough) {
                        return found;
                    }
                    depth--;
                } else if (tryNext(cloth, empties[depth], choice)) {
                    depth++;
                } else if (cloth.kindIn(empties[depth]) == NONE) {
                    depth--;
                }
            }
            return found;
        }

        /** Puts the next kind into a cell, or none behind the last one; tells whether it may stay. */
        private boolean tryNext(Cloth cloth, int cell, int choice) {
            int kind = cloth.kindIn(cell) + 1;
            if (kind >= choice) {
                cloth.put(cell, NONE);
                return false;
            }
            cloth.put(cell, kind);
            int row = cell / Math.max(cloth.columns, 1);
            return !Rules.isBrokenAt(cloth, row, cell - row * cloth.columns);
        }
    }

    /** What can be read off the colours of cloths. */
    private static final class Chart {

        static int leastRepeat(Cloth cloth) {
            for (int shift = 1; shift < cloth.columns; shift++) {
                if (repeatsBy(cloth, shift)) {
                    return shift;
                }
            }
            return cloth.columns;
        }

        private static boolean repeatsBy(Cloth cloth, int shift) {
            for (int row = 0; row < cloth.rows; row++) {
                for (int column = 0; column + shift < cloth.columns; column++) {
                    if (cloth.colourAt(row, column) != cloth.colourAt(row, column + shift)) {
                        return false;
                    }
                }
            }
            return true;
        }

        static boolean readsAlikeBack(Cloth cloth) {
            for (int row = 0; row < cloth.rows; row++) {
                for (int column = 0; column < cloth.columns; column++) {
                    if (cloth.colourAt(row, column) != cloth.colourAt(row, cloth.columns - 1 - column)) {
                        return false;
                    }
                }
            }
            return true;
        }

        static int countRuns(Cloth cloth, int row) {
            int many = 0;
            for (int column = 0; column < cloth.columns; column++) {
                if (isBegin(cloth, row, column, false)) {
                    many++;
                }
            }
            return many;
        }

        private static boolean isBegin(Cloth cloth, int row, int column, boolean isLeft) {
            int colour = cloth.colourAt(row, column);
            return colour != NONE && colour != cloth.colourAt(row, isLeft ? column + 1 : column - 1);
        }

        /** Returns the column at which a run begins for who reads it, NONE if there is no such run. */
        static int findRun(Cloth cloth, int row, int run, boolean isLeft) {
            int seen = 0;
            for (int i = 0; i < cloth.columns; i++) {
                int column = isLeft ? cloth.columns - 1 - i : i;
                if (isBegin(cloth, row, column, isLeft)) {
                    if (seen == run) {
                        return column;
                    }
                    seen++;
                }
            }
            return NONE;
        }

        static int cellsFrom(Cloth cloth, int row, int begin, boolean isLeft) {
            int colour = cloth.colourAt(row, begin);
            for (int cells = 1; cells < cloth.columns; cells++) {
                if (cloth.colourAt(row, isLeft ? begin - cells : begin + cells) != colour) {
                    return cells;
                }
            }
            return cloth.columns;
        }

        static int countSharedErrors(Cloth one, Cloth two, Cloth third) {
            int errors = 0;
            for (int cell = 0; cell < one.size(); cell++) {
                int colour = one.colourIn(cell);
                int original = third.colourIn(cell);
                if (colour != NONE && original != NONE && colour == two.colourIn(cell) && colour != original) {
                    errors++;
                }
            }
            return errors;
        }

        /** Returns the colour by which a cell is guessed, NONE without any. */
        static int mostFrequent(Cloth cloth, int row, int column, int shift) {
            int best = NONE;
            int most = 0;
            for (int colour = 0; colour <= MAX_COLOUR; colour++) {
                int many = countInStep(cloth, row, column, shift, colour);
                if (many > most) {
                    most = many;
                    best = colour;
                }
            }
            return best;
        }

        private static int countInStep(Cloth cloth, int row, int column, int shift, int colour) {
            int many = 0;
            for (int other = 0; other < cloth.columns; other++) {
                if (shift > 0 && other != column && (other - column) % shift == 0
                        && cloth.colourAt(row, other) == colour) {
                    many++;
                }
            }
            return many;
        }
    }

    /** How many beads the rounds of a shape have. */
    private static final class Shape {
        private static final int MOST = 20;
        private static final int FLAT_BEND = 6;

        private final int[] rounds = new int[MOST];
        private int count;

        boolean isFull() {
            return count >= MOST;
        }

        int put(int beads) {
            if (!isFull()) {
                rounds[count] = beads;
                count++;
            }
            return count;
        }

        boolean hasBend(int round) {
            return round > 0 && round < count && round < MOST;
        }

        int bendOf(int round) {
            return hasBend(round) ? FLAT_BEND - (rounds[round] - rounds[round - 1]) : 0;
        }

        char look() {
            if (count < 2) {
                return '-';
            }
            int least = bendOf(1);
            int most = least;
            for (int round = 2; round < count; round++) {
                least = Math.min(least, bendOf(round));
                most = Math.max(most, bendOf(round));
            }
            if (least == most && (least == FLAT_BEND || least == 0)) {
                return least == 0 ? 'f' : 't';
            }
            if (least > 0) {
                return 'c';
            }
            return most < 0 ? 's' : '-';
        }
    }

    /** The string: its beads come off in the other order, the last one first. */
    private static final class Strand {
        private static final int MOST = 144;

        private final int[] beads = new int[MOST];
        private int count;

        int size() {
            return count;
        }

        boolean isFull() {
            return count >= MOST;
        }

        void put(int kind) {
            if (!isFull()) {
                beads[count] = kind;
                count++;
            }
        }

        int kindFromEnd(int place) {
            return place >= 0 && place < count && count <= MOST ? beads[count - 1 - place] : NONE;
        }

        void takeFromEnd(int place) {
            if (place < 0 || place >= count) {
                return;
            }
            for (int i = count - 1 - place; i + 1 < count && i + 1 < MOST; i++) {
                beads[i] = beads[i + 1];
            }
            count--;
        }

        /** Returns where the string is wrong, NONE if it is not; beyond either end there is no colour. */
        int firstWrong(Cloth cloth) {
            int most = Math.max(count, cloth.size());
            for (int cell = 0; cell < most; cell++) {
                int colour = cloth.colourIn(cell);
                if (colour == NONE || colour != cloth.kinds.colourOf(kindFromEnd(cell))) {
                    return cell;
                }
            }
            return NONE;
        }

        void moveInto(Cloth cloth) {
            for (int cell = 0; cell < cloth.size(); cell++) {
                cloth.putPassedTwice(cell, kindFromEnd(cell));
            }
            cloth.state = Cloth.WORKED;
            count = 0;
        }
    }

    /** The words that the colours have in each region. */
    private static final class Words {
        private static final int REGIONS = MAX_REGION + 1;
        private static final int COLOURS = MAX_COLOUR + 1;

        private final int[] list = new int[REGIONS * COLOURS];

        Words() {
            for (int i = 0; i < list.length; i++) {
                list[i] = i % COLOURS;
            }
        }

        private static boolean has(int region, int colour) {
            return region >= 0 && region < REGIONS && colour >= 0 && colour < COLOURS;
        }

        int wordFor(int region, int colour) {
            return has(region, colour) ? list[region * COLOURS + colour] : NONE;
        }

        void put(int region, int colour, int word) {
            if (has(region, colour)) {
                list[region * COLOURS + colour] = word;
            }
        }

        boolean areUnlike(int region) {
            for (int colour = 0; colour < COLOURS; colour++) {
                for (int other = 0; other < colour; other++) {
                    if (wordFor(region, colour) == wordFor(region, other)) {
                        return false;
                    }
                }
            }
            return true;
        }
    }
}
