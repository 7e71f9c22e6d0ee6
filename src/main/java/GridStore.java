import java.util.Arrays;
import java.util.NoSuchElementException;

/** A store of grids whose cells are numbers or holes, with layers, views, hosts and acts on them. */
public final class GridStore {
    public static final int NONE = -1;

    private static final int MOST_GRIDS = 8;
    private static final int MOST_VIEWS = 12;
    private static final int MOST_LAYERS = 20;
    private static final int MOST_WIDE = 48;
    private static final int MOST_HIGH = 40;
    private static final int FIRST_VIEW = 100;
    private static final int PIECE_SIDE = 8;
    private static final int HOST_COUNT = 5;
    private static final int MOST_QUARTERS = 3;
    private static final int MOST_SUM = 9;
    private static final int MOST_SLIDE = 4;
    private static final int MOST_JOIN = 3;
    private static final int LEAST_COARSE = 2;
    private static final int MOST_COARSE = 8;
    private static final int FIND_ROW = 100;

    private static final int BARE = 0;
    private static final int FLAT = 1;
    private static final int SPARSE = 2;
    private static final int FULL = 3;
    private static final int MOST_SPARSE = 12;

    /** What a cell holds that has no number: it lies outside the 32 bits of every number. */
    private static final long HOLE = 1L << 32;

    private final Hosts hosts = new Hosts();
    private final Totals totals = new Totals();
    /** Each grid as a window that shows all of it, so that grids and views are asked alike. */
    private final Window[] wholes = new Window[MOST_GRIDS];
    private final Window[] views = new Window[MOST_VIEWS];
    private int gridCount = 0;
    private int viewCount = 0;

    public GridStore() {
    }

    public int grid(int wide, int high) throws IllegalArgumentException, UnsupportedOperationException {
        if (wide < 1 || wide > MOST_WIDE || high < 1 || high > MOST_HIGH) {
            throw new IllegalArgumentException();
        }
        int number = gridCount;
        if (number < 0 || number >= wholes.length) {
            throw new UnsupportedOperationException();
        }
        wholes[number] = new Window(new Grid(wide, high, hosts));
        gridCount++;
        return number;
    }

    public int view(int of, int x, int y, int wide, int high, int quarters, boolean flipped)
            throws IndexOutOfBoundsException, IllegalArgumentException, UnsupportedOperationException {
        Window window = windowOf(of);
        requireRectangle(window, x, y, wide, high);
        if (quarters < 0 || quarters > MOST_QUARTERS) {
            throw new IllegalArgumentException();
        }
        int number = viewCount;
        if (number < 0 || number >= views.length) {
            throw new UnsupportedOperationException();
        }
        Window part = window.part(x, y, wide, high);
        for (int turn = 0; turn < quarters; turn++) {
            part.turn();
        }
        if (flipped) {
            part.flip();
        }
        views[number] = part;
        viewCount++;
        return number;
    }

    public boolean close(int view, boolean is) throws IndexOutOfBoundsException {
        Window window = view >= 0 && view < views.length ? views[view] : null;
        if (window == null) {
            throw new IndexOutOfBoundsException();
        }
        boolean otherwise = window.closed != is;
        window.closed = is;
        return otherwise;
    }

    public int size(int of, boolean high) throws IndexOutOfBoundsException {
        Window window = windowOf(of);
        return high ? window.high : window.wide;
    }

    public boolean set(int of, int x, int y, int v) throws IndexOutOfBoundsException {
        Window window = windowOf(of);
        requireCell(window, x, y);
        if (!window.writable(x, y)) {
            return false;
        }
        window.write(x, y, v);
        return true;
    }

    public boolean dig(int of, int x, int y) throws IndexOutOfBoundsException {
        Window window = windowOf(of);
        requireCell(window, x, y);
        return window.write(x, y, HOLE) == 1;
    }

    public int fill(int of, int x, int y, int wide, int high, int v)
            throws IndexOutOfBoundsException, IllegalArgumentException {
        Window window = windowOf(of);
        requireRectangle(window, x, y, wide, high);
        int changed = 0;
        for (int row = y; row < y + high; row++) {
            for (int column = x; column < x + wide; column++) {
                changed += window.write(column, row, v);
            }
        }
        return changed;
    }

    public boolean hole(int of, int x, int y) throws IndexOutOfBoundsException {
        Window window = windowOf(of);
        requireCell(window, x, y);
        return window.cell(x, y) == HOLE;
    }

    public int get(int of, int x, int y) throws IndexOutOfBoundsException, NoSuchElementException {
        Window window = windowOf(of);
        requireCell(window, x, y);
        return numberOf(window.cell(x, y));
    }

    public int kind(int grid, int p, int q) throws IndexOutOfBoundsException {
        Grid asked = gridOf(grid);
        if (p < 0 || p >= asked.piecesWide() || q < 0 || q >= asked.piecesHigh()) {
            throw new IndexOutOfBoundsException();
        }
        return asked.pieceKind(p, q);
    }

    public int keep(int grid) throws IndexOutOfBoundsException {
        return gridOf(grid).addLayer();
    }

    public int back(int grid, int layer) throws IndexOutOfBoundsException {
        Grid asked = gridOf(grid);
        return asked.restore(layerOf(asked, layer));
    }

    public int was(int grid, int layer, int x, int y) throws IndexOutOfBoundsException, NoSuchElementException {
        Grid asked = gridOf(grid);
        Cells kept = layerOf(asked, layer);
        if (!kept.inside(x, y)) {
            throw new IndexOutOfBoundsException();
        }
        return numberOf(kept.at(x, y));
    }

    public int differ(int grid, int a, int b) throws IndexOutOfBoundsException {
        Grid asked = gridOf(grid);
        Cells first = a == NONE ? asked.now : layerOf(asked, a);
        Cells second = b == NONE ? asked.now : layerOf(asked, b);
        return asked.unlikePieces(first, second);
    }

    public boolean lose(int host, boolean is) throws IndexOutOfBoundsException {
        if (host < 0 || host >= HOST_COUNT) {
            throw new IndexOutOfBoundsException();
        }
        boolean otherwise = hosts.mark(host, is);
        if (otherwise && is) {
            for (int g = 0; g < wholes.length; g++) {
                if (wholes[g] != null) {
                    wholes[g].grid.bareLostPieces();
                }
            }
        }
        return otherwise;
    }

    public long sum(int of, int x, int y, int r) throws IndexOutOfBoundsException, IllegalArgumentException {
        Window window = windowOf(of);
        requireAround(window, x, y, r);
        totals.gather(window);
        return totals.sumOf(x - r, y - r, x + r, y + r);
    }

    public int many(int of, int x, int y, int r) throws IndexOutOfBoundsException, IllegalArgumentException {
        Window window = windowOf(of);
        requireAround(window, x, y, r);
        totals.gather(window);
        return totals.numbersIn(x - r, y - r, x + r, y + r);
    }

    public int find(int of, int v) throws IndexOutOfBoundsException {
        Window window = windowOf(of);
        for (int y = 0; y < window.high; y++) {
            for (int x = 0; x < window.wide; x++) {
                long cell = window.cell(x, y);
                if (cell != HOLE && cell >= v) {
                    return x + FIND_ROW * y;
                }
            }
        }
        return NONE;
    }

    public int slide(int from, int r, int into) throws IndexOutOfBoundsException, IllegalArgumentException {
        Window source = windowOf(from);
        Grid target = gridOf(into);
        if (r < 0 || r > MOST_SLIDE) {
            throw new IllegalArgumentException();
        }
        requireFit(source, source.wide, source.high, target);
        totals.gather(source);
        int changed = 0;
        for (int y = 0; y < target.high; y++) {
            for (int x = 0; x < target.wide; x++) {
                changed += target.write(x, y, totals.sumCell(x - r, y - r, x + r, y + r));
            }
        }
        return changed;
    }

    public int fold(int from, boolean alongY, int into) throws IndexOutOfBoundsException, IllegalArgumentException {
        Window source = windowOf(from);
        Grid target = gridOf(into);
        requireFit(source, alongY ? source.wide : 1, alongY ? 1 : source.high, target);
        int right = alongY ? 0 : source.wide - 1;
        int down = alongY ? source.high - 1 : 0;
        totals.gather(source);
        int changed = 0;
        for (int y = 0; y < target.high; y++) {
            for (int x = 0; x < target.wide; x++) {
                changed += target.write(x, y, totals.sumCell(x, y, x + right, y + down));
            }
        }
        return changed;
    }

    public int join(int a, int b, int how, int into) throws IndexOutOfBoundsException, IllegalArgumentException {
        Window first = windowOf(a);
        Window second = windowOf(b);
        Grid target = gridOf(into);
        if (how < 0 || how > MOST_JOIN) {
            throw new IllegalArgumentException();
        }
        requireFit(first, first.wide, first.high, target);
        requireFit(second, second.wide, second.high, target);
        int changed = 0;
        for (int y = 0; y < target.high; y++) {
            for (int x = 0; x < target.wide; x++) {
                changed += target.write(x, y, joined(first.cell(x, y), second.cell(x, y), how));
            }
        }
        return changed;
    }

    public int coarse(int from, int k, int into) throws IndexOutOfBoundsException, IllegalArgumentException {
        Window source = windowOf(from);
        Grid target = gridOf(into);
        if (k < LEAST_COARSE || k > MOST_COARSE) {
            throw new IllegalArgumentException();
        }
        requireFit(source, (source.wide + k - 1) / k, (source.high + k - 1) / k, target);
        totals.gather(source);
        int changed = 0;
        for (int y = 0; y < target.high; y++) {
            for (int x = 0; x < target.wide; x++) {
                changed += target.write(x, y, totals.meanCell(x * k, y * k, x * k + k - 1, y * k + k - 1));
            }
        }
        return changed;
    }

    public int read(int of, int x, int y, int wide, int high)
            throws IndexOutOfBoundsException, IllegalArgumentException {
        Window window = windowOf(of);
        requireRectangle(window, x, y, wide, high);
        return window.piecesUnder(x, y, wide, high);
    }

    public int count(int what) {
        switch (what) {
            case 0:
                return gridCount;
            case 1:
                return viewCount;
            case 2:
                return allLayers();
            case 3:
                return hosts.lostOnes();
            case 4:
                return allNumbers();
            case 5:
                return allPieces(BARE);
            case 6:
                return allPieces(FLAT);
            case 7:
                return allPieces(SPARSE);
            case 8:
                return allPieces(FULL);
            default:
                return NONE;
        }
    }

    private int allLayers() {
        int layers = 0;
        for (int g = 0; g < wholes.length; g++) {
            if (wholes[g] != null) {
                layers += wholes[g].grid.layerCount;
            }
        }
        return layers;
    }

    private int allNumbers() {
        int numbers = 0;
        for (int g = 0; g < wholes.length; g++) {
            if (wholes[g] != null) {
                numbers += wholes[g].grid.now.numbers();
            }
        }
        return numbers;
    }

    private int allPieces(int pieceKind) {
        int pieces = 0;
        for (int g = 0; g < wholes.length; g++) {
            if (wholes[g] != null) {
                pieces += wholes[g].grid.piecesOfKind(pieceKind);
            }
        }
        return pieces;
    }

    private Window windowOf(int of) {
        Window window = null;
        if (of >= 0 && of < wholes.length) {
            window = wholes[of];
        } else if (of >= FIRST_VIEW && of - FIRST_VIEW < views.length) {
            window = views[of - FIRST_VIEW];
        }
        if (window == null) {
            throw new IndexOutOfBoundsException();
        }
        return window;
    }

    private Grid gridOf(int number) {
        Window whole = number >= 0 && number < wholes.length ? wholes[number] : null;
        if (whole == null) {
            throw new IndexOutOfBoundsException();
        }
        return whole.grid;
    }

    private static Cells layerOf(Grid grid, int layer) {
        Cells kept = grid.layer(layer);
        if (kept == null) {
            throw new IndexOutOfBoundsException();
        }
        return kept;
    }

    private static void requireCell(Window window, int x, int y) {
        if (x < 0 || x >= window.wide || y < 0 || y >= window.high) {
            throw new IndexOutOfBoundsException();
        }
    }

    private static void requireAround(Window window, int x, int y, int r) {
        requireCell(window, x, y);
        if (r < 0 || r > MOST_SUM) {
            throw new IllegalArgumentException();
        }
    }

    /** A corner outside makes the rectangle none: only its own cells, not its corner, are told as cells. */
    private static void requireRectangle(Window window, int x, int y, int wide, int high) {
        // the lengths are taken off the sizes, since adding them to x and y could go round
        boolean across = wide >= 1 && wide <= window.wide && x >= 0 && x <= window.wide - wide;
        boolean along = high >= 1 && high <= window.high && y >= 0 && y <= window.high - high;
        if (!across || !along) {
            throw new IllegalArgumentException();
        }
    }

    /** Refusing a source of the target itself also lets an act write at once: it reads nothing that it wrote. */
    private static void requireFit(Window source, int wide, int high, Grid target) {
        if (target.wide != wide || target.high != high || source.grid == target) {
            throw new IllegalArgumentException();
        }
    }

    private static int numberOf(long cell) {
        if (cell == HOLE) {
            throw new NoSuchElementException();
        }
        return (int) cell;
    }

    private static long joined(long first, long second, int how) {
        boolean both = first != HOLE && second != HOLE;
        switch (how) {
            case 0:
                return both ? (int) (first + second) : eitherOf(first, second);
            case 1:
                return both ? Math.min(first, second) : HOLE;
            case 2:
                return eitherOf(first, second);
            default:
                return second == HOLE ? first : HOLE;
        }
    }

    private static long eitherOf(long first, long second) {
        return first != HOLE ? first : second;
    }

    /** The hosts that pieces lie on. */
    private static final class Hosts {
        private final boolean[] lost = new boolean[HOST_COUNT];

        boolean isLost(int host) {
            return host >= 0 && host < lost.length && lost[host];
        }

        /** Whether the host was otherwise. */
        boolean mark(int host, boolean is) {
            if (host < 0 || host >= lost.length || lost[host] == is) {
                return false;
            }
            lost[host] = is;
            return true;
        }

        boolean bothLost(int p, int q) {
            int first = (p + q) % HOST_COUNT;
            return isLost(first) && isLost((first + 1) % HOST_COUNT);
        }

        int lostOnes() {
            int ones = 0;
            for (int host = 0; host < lost.length; host++) {
                if (lost[host]) {
                    ones++;
                }
            }
            return ones;
        }
    }

    /** The cells of a grid as they are now, or as a layer keeps them: each a number or HOLE. */
    private static final class Cells {
        private final int wide;
        private final int high;
        private final long[] cells;

        Cells(int wide, int high) {
            this.wide = wide;
            this.high = high;
            long[] holes = new long[wide * high];
            Arrays.fill(holes, HOLE);
            this.cells = holes;
        }

        Cells(Cells other) {
            this.wide = other.wide;
            this.high = other.high;
            this.cells = other.cells.clone();
        }

        boolean inside(int x, int y) {
            return x >= 0 && x < wide && y >= 0 && y < high;
        }

        long at(int x, int y) {
            int index = indexOf(x, y);
            return index >= 0 && index < cells.length ? cells[index] : HOLE;
        }

        /** Whether the cell was changed. */
        boolean put(int x, int y, long cell) {
            int index = indexOf(x, y);
            if (index < 0 || index >= cells.length || cells[index] == cell) {
                return false;
            }
            cells[index] = cell;
            return true;
        }

        int numbers() {
            int numbers = 0;
            for (int i = 0; i < cells.length; i++) {
                numbers += cells[i] == HOLE ? 0 : 1;
            }
            return numbers;
        }

        private int indexOf(int x, int y) {
            return inside(x, y) ? y * wide + x : NONE;
        }
    }

    /** A grid: its cells now, its layers, and what is told by its pieces. */
    private static final class Grid {
        private final int wide;
        private final int high;
        private final Hosts hosts;
        private final Cells now;
        private final Cells[] layers = new Cells[MOST_LAYERS];
        private int layerCount = 0;

        Grid(int wide, int high, Hosts hosts) {
            this.wide = wide;
            this.high = high;
            this.hosts = hosts;
            this.now = new Cells(wide, high);
        }

        boolean writable(int x, int y) {
            return !hosts.bothLost(x / PIECE_SIDE, y / PIECE_SIDE);
        }

        /** How many cells were changed: 1, or 0 also where it cannot be written. */
        int write(int x, int y, long cell) {
            return writable(x, y) && now.put(x, y, cell) ? 1 : 0;
        }

        int addLayer() {
            int number = layerCount;
            if (number < 0 || number >= layers.length) {
                return NONE;
            }
            layers[number] = new Cells(now);
            layerCount++;
            return number;
        }

        Cells layer(int number) {
            return number >= 0 && number < layers.length ? layers[number] : null;
        }

        /** Lost pieces are all holes already, so passing them by leaves them as they have to be. */
        int restore(Cells kept) {
            int changed = 0;
            for (int y = 0; y < high; y++) {
                for (int x = 0; x < wide; x++) {
                    changed += write(x, y, kept.at(x, y));
                }
            }
            return changed;
        }

        void bareLostPieces() {
            for (int y = 0; y < high; y++) {
                for (int x = 0; x < wide; x++) {
                    if (!writable(x, y)) {
                        now.put(x, y, HOLE);
                    }
                }
            }
        }

        int piecesWide() {
            return (wide + PIECE_SIDE - 1) / PIECE_SIDE;
        }

        int piecesHigh() {
            return (high + PIECE_SIDE - 1) / PIECE_SIDE;
        }

        int pieceRight(int p) {
            return Math.min(wide, (p + 1) * PIECE_SIDE);
        }

        int pieceBottom(int q) {
            return Math.min(high, (q + 1) * PIECE_SIDE);
        }

        int pieceKind(int p, int q) {
            long first = now.at(p * PIECE_SIDE, q * PIECE_SIDE);
            boolean alike = true;
            int numbers = 0;
            for (int y = q * PIECE_SIDE; y < pieceBottom(q); y++) {
                for (int x = p * PIECE_SIDE; x < pieceRight(p); x++) {
                    long cell = now.at(x, y);
                    alike = alike && cell == first;
                    numbers += cell == HOLE ? 0 : 1;
                }
            }
            if (numbers == 0) {
                return BARE;
            }
            if (alike) {
                return FLAT;
            }
            return numbers <= MOST_SPARSE ? SPARSE : FULL;
        }

        int piecesOfKind(int pieceKind) {
            int pieces = 0;
            for (int q = 0; q < piecesHigh(); q++) {
                for (int p = 0; p < piecesWide(); p++) {
                    pieces += pieceKind(p, q) == pieceKind ? 1 : 0;
                }
            }
            return pieces;
        }

        int unlikePieces(Cells a, Cells b) {
            int pieces = 0;
            for (int q = 0; q < piecesHigh(); q++) {
                for (int p = 0; p < piecesWide(); p++) {
                    pieces += unlike(a, b, p, q) ? 1 : 0;
                }
            }
            return pieces;
        }

        private boolean unlike(Cells a, Cells b, int p, int q) {
            for (int y = q * PIECE_SIDE; y < pieceBottom(q); y++) {
                for (int x = p * PIECE_SIDE; x < pieceRight(p); x++) {
                    if (a.at(x, y) != b.at(x, y)) {
                        return true;
                    }
                }
            }
            return false;
        }
    }

    /**
     * A rectangle of a grid, turned and flipped: a view, or a whole grid. However deep a view stands on views,
     * it keeps just where its first cell lies in the grid and the steps there for one cell right and one down.
     */
    private static final class Window {
        private final Grid grid;
        private int wide;
        private int high;
        private int firstX = 0;
        private int firstY = 0;
        private int rightX = 1;
        private int rightY = 0;
        private int downX = 0;
        private int downY = 1;
        private boolean closed = false;

        Window(Grid grid) {
            this.grid = grid;
            this.wide = grid.wide;
            this.high = grid.high;
        }

        Window part(int x, int y, int partWide, int partHigh) {
            Window part = new Window(grid);
            part.wide = partWide;
            part.high = partHigh;
            part.firstX = gridX(x, y);
            part.firstY = gridY(x, y);
            part.rightX = rightX;
            part.rightY = rightY;
            part.downX = downX;
            part.downY = downY;
            return part;
        }

        /** Cell (u, v) becomes what cell (v, high - 1 - u) was. */
        void turn() {
            firstX += (high - 1) * downX;
            firstY += (high - 1) * downY;
            int oldRightX = rightX;
            int oldRightY = rightY;
            rightX = -downX;
            rightY = -downY;
            downX = oldRightX;
            downY = oldRightY;
            int oldWide = wide;
            wide = high;
            high = oldWide;
        }

        /** Cell (u, v) becomes what cell (wide - 1 - u, v) was. */
        void flip() {
            firstX += (wide - 1) * rightX;
            firstY += (wide - 1) * rightY;
            rightX = -rightX;
            rightY = -rightY;
        }

        private int gridX(int x, int y) {
            return firstX + x * rightX + y * downX;
        }

        private int gridY(int x, int y) {
            return firstY + x * rightY + y * downY;
        }

        long cell(int x, int y) {
            return grid.now.at(gridX(x, y), gridY(x, y));
        }

        boolean writable(int x, int y) {
            return !closed && grid.writable(gridX(x, y), gridY(x, y));
        }

        int write(int x, int y, long cell) {
            return closed ? 0 : grid.write(gridX(x, y), gridY(x, y), cell);
        }

        int piecesUnder(int x, int y, int rectangleWide, int rectangleHigh) {
            int lastX = x + rectangleWide - 1;
            int lastY = y + rectangleHigh - 1;
            int across = gridX(lastX, lastY) / PIECE_SIDE - gridX(x, y) / PIECE_SIDE;
            int along = gridY(lastX, lastY) / PIECE_SIDE - gridY(x, y) / PIECE_SIDE;
            return (Math.abs(across) + 1) * (Math.abs(along) + 1);
        }
    }

    /**
     * The sums of the numbers of a window's rectangles, and how many they are. It holds them for the rectangles from
     * the window's first cell on, since any other is told by four of these: an act asks for one at each cell.
     */
    private static final class Totals {
        private final long[] sums = new long[MOST_WIDE * MOST_HIGH];
        private final int[] numbers = new int[MOST_WIDE * MOST_HIGH];
        private int wide = 0;
        private int high = 0;

        void gather(Window window) {
            wide = window.wide;
            high = window.high;
            for (int y = 1; y <= high; y++) {
                gatherRow(window, y);
            }
        }

        private void gatherRow(Window window, int y) {
            long rowSum = 0;
            int rowNumbers = 0;
            for (int x = 1; x <= wide; x++) {
                long cell = window.cell(x - 1, y - 1);
                if (cell != HOLE) {
                    rowSum += cell;
                    rowNumbers++;
                }
                put(x, y, sumTo(x, y - 1) + rowSum, numbersTo(x, y - 1) + rowNumbers);
            }
        }

        private void put(int x, int y, long sum, int present) {
            int index = indexOf(x, y);
            if (index >= 0 && index < sums.length && index < numbers.length) {
                sums[index] = sum;
                numbers[index] = present;
            }
        }

        /** The sum of the first x columns' first y cells. */
        private long sumTo(int x, int y) {
            int index = indexOf(x, y);
            return index >= 0 && index < sums.length ? sums[index] : 0;
        }

        private int numbersTo(int x, int y) {
            int index = indexOf(x, y);
            return index >= 0 && index < numbers.length ? numbers[index] : 0;
        }

        private int indexOf(int x, int y) {
            return x >= 1 && x <= wide && y >= 1 && y <= high ? (y - 1) * wide + x - 1 : NONE;
        }

        /** The sum of the numbers from cell (left, top) to cell (right, bottom), as far as there are cells. */
        long sumOf(int left, int top, int right, int bottom) {
            int fromX = Math.max(left, 0);
            int fromY = Math.max(top, 0);
            int toX = Math.min(right + 1, wide);
            int toY = Math.min(bottom + 1, high);
            return sumTo(toX, toY) - sumTo(fromX, toY) - sumTo(toX, fromY) + sumTo(fromX, fromY);
        }

        int numbersIn(int left, int top, int right, int bottom) {
            int fromX = Math.max(left, 0);
            int fromY = Math.max(top, 0);
            int toX = Math.min(right + 1, wide);
            int toY = Math.min(bottom + 1, high);
            return numbersTo(toX, toY) - numbersTo(fromX, toY) - numbersTo(toX, fromY) + numbersTo(fromX, fromY);
        }

        long sumCell(int left, int top, int right, int bottom) {
            int present = numbersIn(left, top, right, bottom);
            return present == 0 ? HOLE : (int) sumOf(left, top, right, bottom);
        }

        long meanCell(int left, int top, int right, int bottom) {
            int present = numbersIn(left, top, right, bottom);
            return present == 0 ? HOLE : Math.floorDiv(sumOf(left, top, right, bottom), (long) present);
        }
    }
}
