import java.util.ArrayList;
import java.util.Arrays;
import java.util.HashSet;
import java.util.List;
import java.util.NoSuchElementException;
import java.util.Set;

/** The document told a second time, by lists and sets and without any care for speed, to compare runs with. */
public final class Model {
    private record Bead(int colour, int width, int hole, int price) {
    }

    private static final class Fabric {
        char stitch;
        int columns;
        int rows;
        char state = 'd';
        int rules;
        int[][] kinds;
        int[][] fallen;
        int[][] passes;

        boolean has(int row, int column) {
            return row >= 0 && row < rows && column >= 0 && column < columns;
        }
    }

    private final List<Bead> beads = new ArrayList<>();
    private final List<Integer> stocks = new ArrayList<>();
    private final List<Fabric> fabrics = new ArrayList<>();
    private final List<List<Integer>> forms = new ArrayList<>();
    private final List<Integer> line = new ArrayList<>();
    private final int[][] words = new int[3][8];
    private int length;
    private int balance;
    private int bought;
    private int inCloths;
    private int sold;
    private int lost;

    public Model() {
        for (int[] region : words) {
            for (int colour = 0; colour < 8; colour++) {
                region[colour] = colour;
            }
        }
    }

    private static void index(boolean isRight) {
        if (!isRight) {
            throw new IndexOutOfBoundsException();
        }
    }

    private static void argument(boolean isRight) {
        if (!isRight) {
            throw new IllegalArgumentException();
        }
    }

    private static void ready(boolean isRight) {
        if (!isRight) {
            throw new IllegalStateException();
        }
    }

    private static void possible(boolean isRight) {
        if (!isRight) {
            throw new UnsupportedOperationException();
        }
    }

    private static void there(boolean isRight) {
        if (!isRight) {
            throw new NoSuchElementException();
        }
    }

    private static boolean in(int value, int least, int most) {
        return least <= value && value <= most;
    }

    private Fabric fabric(int cloth) {
        index(in(cloth, 0, fabrics.size() - 1));
        return fabrics.get(cloth);
    }

    private void change(int kind, int by) {
        stocks.set(kind, stocks.get(kind) + by);
    }

    // ---- beads ----

    public int addKind(int colour, int width, int hole, int price) {
        argument(in(colour, 0, 7) && in(width, 8, 30) && in(hole, 2, 9) && in(price, 0, 99));
        ready(beads.size() < 8);
        beads.add(new Bead(colour, width, hole, price));
        stocks.add(0);
        return beads.size() - 1;
    }

    public int buy(int kind, int many) {
        index(in(kind, 0, beads.size() - 1));
        argument(in(many, 1, 999));
        ready(stocks.get(kind) + many <= 99999);
        change(kind, many);
        bought += many;
        balance -= many * beads.get(kind).price();
        return stocks.get(kind);
    }

    public int stock(int kind) {
        index(in(kind, 0, beads.size() - 1));
        return stocks.get(kind);
    }

    public int thread(int more) {
        argument(in(more, 0, 9999));
        ready(length + more <= 999999);
        length += more;
        return length;
    }

    // ---- cloths ----

    public int addCloth(char stitch, int columns, int rows) {
        argument("lpb".indexOf(stitch) >= 0 && in(columns, 2, 12) && in(rows, 1, 12));
        ready(fabrics.size() < 6);
        Fabric f = new Fabric();
        f.stitch = stitch;
        f.columns = columns;
        f.rows = rows;
        f.kinds = new int[rows][columns];
        f.fallen = new int[rows][columns];
        f.passes = new int[rows][columns];
        for (int row = 0; row < rows; row++) {
            Arrays.fill(f.kinds[row], -1);
            Arrays.fill(f.fallen[row], -1);
        }
        fabrics.add(f);
        return fabrics.size() - 1;
    }

    public char state(int cloth) {
        return fabric(cloth).state;
    }

    public int draw(int cloth, int row, int column, int kind) {
        Fabric f = fabric(cloth);
        index(f.has(row, column) && in(kind, -1, beads.size() - 1));
        possible(f.state == 'd');
        int before = f.kinds[row][column];
        f.kinds[row][column] = kind;
        return before;
    }

    public int kindAt(int cloth, int row, int column) {
        Fabric f = fabric(cloth);
        index(f.has(row, column));
        return f.kinds[row][column];
    }

    public int motif(int cloth, int wide, int high, int lean) {
        Fabric f = fabric(cloth);
        argument(in(wide, 1, f.columns) && in(high, 1, f.rows) && in(lean, -12, 12));
        possible(f.state == 'd');
        int[][] block = new int[high][wide];
        for (int row = 0; row < high; row++) {
            for (int column = 0; column < wide; column++) {
                block[row][column] = f.kinds[row][column];
                possible(block[row][column] >= 0);
            }
        }
        int changed = 0;
        for (int row = 0; row < f.rows; row++) {
            for (int column = 0; column < f.columns; column++) {
                int from = column - lean * (row / high) + 1000 * wide;
                int kind = block[row % high][from % wide];
                changed += kind == f.kinds[row][column] ? 0 : 1;
                f.kinds[row][column] = kind;
            }
        }
        return changed;
    }

    public int setRules(int cloth, int rules) {
        Fabric f = fabric(cloth);
        argument(in(rules, 0, 15));
        int before = f.rules;
        f.rules = rules;
        return before;
    }

    private int colour(Fabric f, int row, int column) {
        int kind = f.kinds[row][column];
        return kind < 0 ? -1 : beads.get(kind).colour();
    }

    private boolean alike(Fabric f, int row, int column, int otherRow, int otherColumn) {
        int one = colour(f, row, column);
        return one >= 0 && one == colour(f, otherRow, otherColumn);
    }

    /** The cells that the document tells as neighbours, each as its row times 100 and its column. */
    private static Set<Integer> neighbours(Fabric f, int row, int column) {
        List<int[]> told = new ArrayList<>();
        told.add(new int[] {row - 1, column});
        told.add(new int[] {row + 1, column});
        told.add(new int[] {row, column - 1});
        told.add(new int[] {row, column + 1});
        if (f.stitch == 'p') {
            int beside = column % 2 == 1 ? row + 1 : row - 1;
            told.add(new int[] {beside, column - 1});
            told.add(new int[] {beside, column + 1});
        }
        if (f.stitch == 'b') {
            int beside = row % 2 == 1 ? column + 1 : column - 1;
            told.add(new int[] {row - 1, beside});
            told.add(new int[] {row + 1, beside});
        }
        Set<Integer> cells = new HashSet<>();
        for (int[] cell : told) {
            if (f.has(cell[0], cell[1])) {
                cells.add(cell[0] * 100 + cell[1]);
            }
        }
        return cells;
    }

    private static Set<Integer> slants(Fabric f, int row, int column) {
        Set<Integer> cells = new HashSet<>();
        for (int other = 0; other < f.rows * f.columns; other++) {
            int r = other / f.columns;
            int c = other % f.columns;
            boolean rowsBeside = Math.abs(r - row) == 1;
            boolean columnsBeside = Math.abs(c - column) == 1;
            boolean areNeighbours = neighbours(f, row, column).contains(r * 100 + c);
            if (f.stitch == 'l' ? rowsBeside && columnsBeside
                    : areNeighbours && (f.stitch == 'p' ? columnsBeside : rowsBeside)) {
                cells.add(r * 100 + c);
            }
        }
        return cells;
    }

    private int breaches(Fabric f, int rule) {
        int twiceCounted = 0;
        int threes = 0;
        int outside = 0;
        for (int row = 0; row < f.rows; row++) {
            for (int column = 0; column < f.columns; column++) {
                for (int other : rule == 1 ? neighbours(f, row, column)
                        : rule == 2 ? slants(f, row, column) : new HashSet<Integer>()) {
                    twiceCounted += alike(f, row, column, other / 100, other % 100) ? 1 : 0;
                }
                threes += column >= 2 && alike(f, row, column, row, column - 1)
                        && alike(f, row, column, row, column - 2) ? 1 : 0;
                boolean isEdge = row == 0 || row == f.rows - 1 || column == 0 || column == f.columns - 1;
                outside += isEdge && f.kinds[0][0] >= 0 && f.kinds[row][column] >= 0
                        && !alike(f, row, column, 0, 0) ? 1 : 0;
            }
        }
        return rule == 4 ? threes : rule == 8 ? outside : twiceCounted / 2;
    }

    private int ownBreaches(Fabric f) {
        int all = 0;
        for (int rule : new int[] {1, 2, 4, 8}) {
            all += (f.rules & rule) == rule ? breaches(f, rule) : 0;
        }
        return all;
    }

    public int broken(int cloth, int rule) {
        Fabric f = fabric(cloth);
        argument(List.of(1, 2, 4, 8).contains(rule));
        return breaches(f, rule);
    }

    private static List<int[]> empties(Fabric f) {
        List<int[]> cells = new ArrayList<>();
        for (int row = 0; row < f.rows; row++) {
            for (int column = 0; column < f.columns; column++) {
                if (f.kinds[row][column] < 0) {
                    cells.add(new int[] {row, column});
                }
            }
        }
        return cells;
    }

    /** The ways as numbers whose first digit is the kind of the first empty cell, in their order. */
    private List<Integer> allWays(int cloth, int choice) {
        Fabric f = fabric(cloth);
        argument(in(choice, 1, 4));
        List<int[]> cells = empties(f);
        possible(f.state == 'd' && cells.size() <= 6 && choice <= beads.size());
        int many = 1;
        for (int i = 0; i < cells.size(); i++) {
            many *= choice;
        }
        List<Integer> found = new ArrayList<>();
        for (int way = 0; way < many; way++) {
            putWay(f, cells, choice, way);
            if (ownBreaches(f) == 0) {
                found.add(way);
            }
        }
        for (int[] cell : cells) {
            f.kinds[cell[0]][cell[1]] = -1;
        }
        return found;
    }

    private static void putWay(Fabric f, List<int[]> cells, int choice, int way) {
        int rest = way;
        for (int i = cells.size() - 1; i >= 0; i--) {
            f.kinds[cells.get(i)[0]][cells.get(i)[1]] = rest % choice;
            rest /= choice;
        }
    }

    public int ways(int cloth, int kinds) {
        return allWays(cloth, kinds).size();
    }

    public int fill(int cloth, int kinds) {
        List<Integer> found = allWays(cloth, kinds);
        there(!found.isEmpty());
        List<int[]> cells = empties(fabric(cloth));
        putWay(fabric(cloth), cells, kinds, found.get(0));
        return cells.size();
    }

    public int repeat(int cloth) {
        Fabric f = fabric(cloth);
        possible(empties(f).isEmpty());
        for (int shift = 1; ; shift++) {
            boolean holds = true;
            for (int row = 0; row < f.rows; row++) {
                for (int column = shift; column < f.columns; column++) {
                    holds &= alike(f, row, column, row, column - shift);
                }
            }
            if (holds) {
                return shift;
            }
        }
    }

    public boolean isMirrored(int cloth) {
        Fabric f = fabric(cloth);
        possible(empties(f).isEmpty());
        boolean holds = true;
        for (int row = 0; row < f.rows; row++) {
            for (int column = 0; column < f.columns; column++) {
                holds &= alike(f, row, column, row, f.columns - 1 - column);
            }
        }
        return holds;
    }

    // ---- paths and snaps ----

    private static List<Integer> path(Fabric f) {
        List<Integer> cells = new ArrayList<>();
        boolean isForth = true;
        for (int row = 0; row < f.rows; row++) {
            int halves = f.stitch == 'b' ? 1 : 2;
            for (int half = 0; half < halves; half++) {
                for (int i = 0; i < f.columns; i++) {
                    int column = isForth ? i : f.columns - 1 - i;
                    int here = row * f.columns + column;
                    if (f.stitch != 'p') {
                        cells.add(here);
                    }
                    if (f.stitch == 'b') {
                        cells.add(here);
                    }
                    if (f.stitch == 'p' && column % 2 == half) {
                        cells.add(here);
                        int beside = isForth ? column + 1 : column - 1;
                        int besideRow = half == 0 ? row - 1 : row;
                        if (f.has(besideRow, beside)) {
                            cells.add(besideRow * f.columns + beside);
                        }
                    }
                }
                isForth = !isForth;
            }
        }
        return cells;
    }

    public int pathLength(int cloth) {
        return path(fabric(cloth)).size();
    }

    public int passAt(int cloth, int place) {
        List<Integer> cells = path(fabric(cloth));
        there(in(place, 0, cells.size() - 1));
        return cells.get(place);
    }

    public int work(int cloth) {
        Fabric f = fabric(cloth);
        possible(f.state == 'd' && empties(f).isEmpty());
        int[] needed = new int[8];
        int[][] times = new int[f.rows][f.columns];
        int wide = 0;
        for (int[] row : f.kinds) {
            for (int kind : row) {
                needed[kind]++;
            }
        }
        for (int cell : path(f)) {
            times[cell / f.columns][cell % f.columns]++;
            wide += beads.get(f.kinds[cell / f.columns][cell % f.columns]).width();
        }
        for (int kind = 0; kind < beads.size(); kind++) {
            possible(needed[kind] <= stocks.get(kind));
        }
        possible(wide <= length);
        for (int kind = 0; kind < beads.size(); kind++) {
            change(kind, -needed[kind]);
        }
        inCloths += f.rows * f.columns;
        length -= wide;
        f.passes = times;
        f.state = 'w';
        return length;
    }

    public int passes(int cloth, int row, int column) {
        Fabric f = fabric(cloth);
        index(f.has(row, column));
        possible(f.state != 'd');
        return f.passes[row][column];
    }

    public int snap(int cloth, int place) {
        Fabric f = fabric(cloth);
        List<Integer> cells = path(f);
        there(in(place, 0, cells.size() - 1));
        possible(f.state == 'w');
        Set<Integer> falling = new HashSet<>(cells);
        for (int i = 0; i < cells.size(); i++) {
            if (Math.abs(i - place) > 2) {
                falling.remove(cells.get(i));
            }
        }
        for (int cell : falling) {
            int row = cell / f.columns;
            int column = cell % f.columns;
            f.fallen[row][column] = f.kinds[row][column];
            f.kinds[row][column] = -1;
            f.passes[row][column] = 0;
            f.state = 'g';
        }
        inCloths -= falling.size();
        lost += falling.size();
        return falling.size();
    }

    public int mend(int cloth) {
        Fabric f = fabric(cloth);
        possible(f.state == 'g');
        int[] needed = new int[8];
        int[][] then = new int[f.rows][f.columns];
        int gaps = 0;
        for (int row = 0; row < f.rows; row++) {
            for (int column = 0; column < f.columns; column++) {
                if (f.fallen[row][column] >= 0) {
                    needed[f.fallen[row][column]]++;
                    then[row][column] = 2;
                    gaps++;
                    continue;
                }
                then[row][column] = f.passes[row][column];
                for (int other : neighbours(f, row, column)) {
                    then[row][column] += f.fallen[other / 100][other % 100] >= 0 ? 1 : 0;
                }
                possible(then[row][column] <= beads.get(f.kinds[row][column]).hole());
            }
        }
        for (int kind = 0; kind < beads.size(); kind++) {
            possible(needed[kind] <= stocks.get(kind));
        }
        for (int row = 0; row < f.rows; row++) {
            for (int column = 0; column < f.columns; column++) {
                if (f.fallen[row][column] >= 0) {
                    change(f.fallen[row][column], -1);
                    f.kinds[row][column] = f.fallen[row][column];
                    f.fallen[row][column] = -1;
                }
            }
        }
        f.passes = then;
        f.state = 'w';
        inCloths += gaps;
        return gaps;
    }

    public int rowWidth(int cloth, int row) {
        Fabric f = fabric(cloth);
        index(in(row, 0, f.rows - 1));
        int wide = 0;
        for (int kind : f.kinds[row]) {
            wide += kind < 0 ? 0 : beads.get(kind).width();
        }
        return wide;
    }

    public int lean(int cloth) {
        Fabric f = fabric(cloth);
        int[] wide = new int[f.rows];
        for (int row = 0; row < f.rows; row++) {
            wide[row] = rowWidth(cloth, row);
        }
        Arrays.sort(wide);
        return wide[f.rows - 1] - wide[0];
    }

    // ---- rounds and the string ----

    private List<Integer> rounds(int shape) {
        index(in(shape, 0, forms.size() - 1));
        return forms.get(shape);
    }

    public int addShape() {
        ready(forms.size() < 4);
        forms.add(new ArrayList<>());
        return forms.size() - 1;
    }

    public int addRound(int shape, int many) {
        List<Integer> all = rounds(shape);
        argument(in(many, 1, 199));
        ready(all.size() < 20);
        all.add(many);
        return all.size();
    }

    public int bend(int shape, int round) {
        List<Integer> all = rounds(shape);
        there(in(round, 1, all.size() - 1));
        return 6 - all.get(round) + all.get(round - 1);
    }

    public char form(int shape) {
        List<Integer> all = rounds(shape);
        int tubes = 0;
        int flats = 0;
        int cups = 0;
        int saddles = 0;
        for (int round = 1; round < all.size(); round++) {
            int bend = bend(shape, round);
            tubes += bend == 6 ? 1 : 0;
            flats += bend == 0 ? 1 : 0;
            cups += bend > 0 ? 1 : 0;
            saddles += bend < 0 ? 1 : 0;
        }
        int bends = all.size() - 1;
        if (bends < 1) {
            return '-';
        }
        return tubes == bends ? 't' : flats == bends ? 'f' : cups == bends ? 'c' : saddles == bends ? 's' : '-';
    }

    public int string(int kind) {
        index(in(kind, 0, beads.size() - 1));
        possible(stocks.get(kind) > 0);
        ready(line.size() < 144);
        change(kind, -1);
        line.add(0, kind);
        return line.size();
    }

    public int strung(int place) {
        there(in(place, 0, line.size() - 1));
        return line.get(place);
    }

    public int breakBead(int place) {
        there(in(place, 0, line.size() - 1));
        line.remove(place);
        lost++;
        return line.size();
    }

    private int wrong(Fabric f) {
        int size = f.rows * f.columns;
        for (int cell = 0; cell < size; cell++) {
            if (cell == line.size()) {
                return cell;
            }
            int kind = f.kinds[cell / f.columns][cell % f.columns];
            if (kind < 0 || beads.get(kind).colour() != beads.get(line.get(cell)).colour()) {
                return cell;
            }
        }
        return line.size() > size ? size : -1;
    }

    public int wrongAt(int cloth) {
        Fabric f = fabric(cloth);
        possible(f.state == 'd');
        there(wrong(f) >= 0);
        return wrong(f);
    }

    public int crochet(int cloth) {
        Fabric f = fabric(cloth);
        possible(f.state == 'd' && wrong(f) < 0);
        int many = line.size();
        for (int cell = 0; cell < many; cell++) {
            f.kinds[cell / f.columns][cell % f.columns] = line.get(cell);
            f.passes[cell / f.columns][cell % f.columns] = 2;
        }
        line.clear();
        inCloths += many;
        f.state = 'w';
        return many;
    }

    // ---- words, charts and copies ----

    public int setWord(int region, int colour, int word) {
        argument(in(region, 0, 2) && in(colour, 0, 7) && in(word, 0, 9));
        int before = words[region][colour];
        words[region][colour] = word;
        return before;
    }

    public boolean isClear(int region) {
        argument(in(region, 0, 2));
        Set<Integer> seen = new HashSet<>();
        for (int word : words[region]) {
            seen.add(word);
        }
        return seen.size() == 8;
    }

    /** The runs of a row from the first column on, each as its colour and its cells. */
    private List<int[]> runList(int cloth, int row) {
        Fabric f = fabric(cloth);
        index(in(row, 0, f.rows - 1));
        List<int[]> found = new ArrayList<>();
        for (int column = 0; column < f.columns; column++) {
            if (column > 0 && alike(f, row, column, row, column - 1)) {
                found.get(found.size() - 1)[1]++;
            } else if (colour(f, row, column) >= 0) {
                found.add(new int[] {colour(f, row, column), 1});
            }
        }
        return found;
    }

    public int runs(int cloth, int row) {
        return runList(cloth, row).size();
    }

    private int[] run(int cloth, int row, int run, boolean isLeft) {
        List<int[]> found = runList(cloth, row);
        there(in(run, 0, found.size() - 1));
        return found.get(isLeft ? found.size() - 1 - run : run);
    }

    public int runLength(int cloth, int row, int run, boolean isLeft) {
        return run(cloth, row, run, isLeft)[1];
    }

    public int runColour(int cloth, int row, int run, boolean isLeft) {
        return run(cloth, row, run, isLeft)[0];
    }

    public int runWord(int cloth, int row, int run, int region) {
        runList(cloth, row);
        argument(in(region, 0, 2));
        return words[region][run(cloth, row, run, false)[0]];
    }

    public int shared(int cloth, int other, int original) {
        Fabric a = fabric(cloth);
        Fabric b = fabric(other);
        Fabric o = fabric(original);
        possible(a.stitch == b.stitch && a.stitch == o.stitch && a.columns == b.columns
                && a.columns == o.columns && a.rows == b.rows && a.rows == o.rows);
        int many = 0;
        for (int row = 0; row < a.rows; row++) {
            for (int column = 0; column < a.columns; column++) {
                int one = colour(a, row, column);
                int third = colour(o, row, column);
                many += one >= 0 && third >= 0 && one == colour(b, row, column) && one != third ? 1 : 0;
            }
        }
        return many;
    }

    public int guess(int cloth, int row, int column, int repeat) {
        Fabric f = fabric(cloth);
        index(f.has(row, column));
        argument(in(repeat, 1, 12));
        int[] votes = new int[8];
        for (int step = -12; step <= 12; step++) {
            int other = column + step * repeat;
            if (step != 0 && f.has(row, other) && colour(f, row, other) >= 0) {
                votes[colour(f, row, other)]++;
            }
        }
        int best = 0;
        for (int colour = 7; colour >= 0; colour--) {
            best = votes[colour] >= votes[best] ? colour : best;
        }
        there(votes[best] > 0);
        return best;
    }

    // ---- sales and sums ----

    public int sell(int cloth) {
        Fabric f = fabric(cloth);
        possible(f.state == 'w');
        int brings = -3 * ownBreaches(f);
        for (int[] row : f.kinds) {
            for (int kind : row) {
                brings += 2 * beads.get(kind).price();
            }
        }
        f.state = 's';
        balance += brings;
        inCloths -= f.rows * f.columns;
        sold += f.rows * f.columns;
        return brings;
    }

    public int money() {
        return balance;
    }

    private int inStock() {
        int many = 0;
        for (int stock : stocks) {
            many += stock;
        }
        return many;
    }

    public int account(char kind) {
        int at = "bstcxl".indexOf(kind);
        argument(at >= 0);
        return new int[] {bought, inStock(), line.size(), inCloths, sold, lost}[at];
    }

    public float share(int cloth, int colour) {
        Fabric f = fabric(cloth);
        argument(in(colour, 0, 7));
        int all = f.rows * f.columns - empties(f).size();
        there(all > 0);
        int many = 0;
        for (int row = 0; row < f.rows; row++) {
            for (int column = 0; column < f.columns; column++) {
                many += colour(f, row, column) == colour ? 1 : 0;
            }
        }
        return (float) many / (float) all;
    }

    public int shareBits(int cloth, int colour) {
        return Float.floatToIntBits(share(cloth, colour));
    }

    public long checksum() {
        List<Integer> parts = new ArrayList<>(stocks);
        for (Fabric f : fabrics) {
            for (int[] row : f.kinds) {
                for (int kind : row) {
                    parts.add(kind + 1);
                }
            }
            parts.add((int) f.state);
        }
        for (int place = line.size() - 1; place >= 0; place--) {
            parts.add(line.get(place));
        }
        parts.add(length);
        parts.add(balance);
        long sum = 7;
        for (int part : parts) {
            sum = 31 * sum + part;
        }
        return sum;
    }

    public double meanWidth() {
        there(inStock() > 0);
        int wide = 0;
        for (int kind = 0; kind < beads.size(); kind++) {
            wide += beads.get(kind).width() * stocks.get(kind);
        }
        return (double) wide / (double) inStock();
    }

    public boolean isSound() {
        return bought == inStock() + line.size() + inCloths + sold + lost;
    }
}
