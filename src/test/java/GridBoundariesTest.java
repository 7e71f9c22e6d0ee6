/** Terms 1, sentence by sentence: GRIDS, CELLS, PIECES and their KINDS, HOSTS, LAYERS. */
public final class GridBoundariesTest extends Checks {
    private static final int NONE_OF_THEM = 100;
    private static final int[] EDGE_NUMBERS = {LEAST, LEAST + 1, -1, 0, 1, MOST - 1, MOST};

    public static void main(String[] args) {
        gridsAtMostEight();
        gridSizes();
        numbersOf32Bits();
        allHolesAtFirst();
        piecesOfEightByEight();
        piecesAtTheRims();
        kindBare();
        kindFlat();
        kindSparse();
        kindFull();
        firstKindThatHolds();
        hostsOfPieces();
        hostsNotLostAtFirst();
        lostPiecesBecomeBare();
        layersKeepWhatTheyHave();
        numbersAreRefused();
        writtenAsLongAsOneIsThere();
        fillPassesBy();
        actsPassBy();
        backPassesBy();
        layersAtMostTwenty();
        layersOfAGrid();
        backToALayer();
        atMost512Calls();
        finish("GridBoundariesTest");
    }

    private static void gridsAtMostEight() {
        sentence("GRIDS (at most 8, numbered from 0 on)");
        GridStore store = new GridStore();
        State state = new State();
        for (int g = 0; g < 8; g++) {
            int next = g;
            refused("grid " + g + " ahead of its making", NO_SUCH_PLACE, () -> store.size(next, false));
            due("the next grid", g, store.grid(g + 1, 1));
            due("its size", g + 1, store.size(g, false));
            due("grids", g + 1, store.count(0));
            state = state.then(s -> s.grid(next + 1, 1));
        }
        unchanged("a ninth grid", state, TOO_MANY, s -> s.grid(1, 1));
        unchanged("a ninth grid, the greatest", state, TOO_MANY, s -> s.grid(48, 40));
        refused("grid 8", NO_SUCH_PLACE, () -> store.size(8, false));
        refused("grid -1", NO_SUCH_PLACE, () -> store.size(-1, false));
    }

    private static void gridSizes() {
        sentence("1 to 48 CELLS wide, 1 to 40 high");
        int[][] sizes = {{1, 1}, {2, 1}, {1, 2}, {48, 1}, {1, 40}, {47, 39}, {41, 40}, {48, 40}};
        for (int[] size : sizes) {
            int wide = size[0];
            int high = size[1];
            GridStore store = new GridStore();
            due("grid " + wide + " x " + high, 0, store.grid(wide, high));
            due("wide", wide, store.size(0, false));
            due("high", high, store.size(0, true));
            due("its last cell", true, store.set(0, wide - 1, high - 1, 1));
            due("its number", 1, store.get(0, wide - 1, high - 1));
            refused("no cell behind it", NO_SUCH_PLACE, () -> store.set(0, wide, high - 1, 1));
            refused("no cell under it", NO_SUCH_PLACE, () -> store.set(0, wide - 1, high, 1));
        }
        int[][] none = {{0, 1}, {1, 0}, {0, 0}, {49, 1}, {49, 40}, {1, 41}, {48, 41}, {40, 48}, {-1, 1}, {1, -1},
            {-1, -1}, {LEAST, 1}, {1, LEAST}, {MOST, 1}, {1, MOST}, {MOST, MOST}, {65536, 65536}};
        State state = new State(s -> s.grid(3, 2), s -> s.set(0, 1, 1, 4), s -> s.keep(0));
        for (int[] size : none) {
            unchanged("grid " + size[0] + " x " + size[1], state, WRONG, s -> s.grid(size[0], size[1]));
        }
    }

    private static void numbersOf32Bits() {
        sentence("CELL (x, y) has a number (of 32 bits) or is a HOLE");
        for (int v : EDGE_NUMBERS) {
            GridStore store = new GridStore();
            store.grid(3, 2);
            due("set of " + v, true, store.set(0, 1, 0, v));
            due("is its number", v, store.get(0, 1, 0));
            due("and no hole", false, store.hole(0, 1, 0));
            due("its neighbours are holes", true, store.hole(0, 0, 0) && store.hole(0, 2, 0) && store.hole(0, 1, 1));
            due("one has a number", 1, store.count(4));
            due("fill with " + v, 5, store.fill(0, 0, 0, 3, 2, v));
            due("is its number", v, store.get(0, 2, 1));
            due("sum of it", (long) v, store.sum(0, 2, 1, 0));
            due("find of it", 0, store.find(0, v));
            due("kept", 0, store.keep(0));
            due("dug", true, store.dig(0, 1, 0));
            due("is a hole", true, store.hole(0, 1, 0));
            refused("has no number", NO_NUMBER, () -> store.get(0, 1, 0));
            due("had a number", v, store.was(0, 0, 1, 0));
            due("gets it back", 1, store.back(0, 0));
            due("has it again", v, store.get(0, 1, 0));
        }
    }

    private static void allHolesAtFirst() {
        sentence("or is a HOLE (all are, at first)");
        for (int y = 0; y < 40; y++) {
            GridStore store = new GridStore();
            store.grid(48, 40);
            for (int x = 0; x < 48; x++) {
                due("a new grid's cell (" + x + ", " + y + ")", true, store.hole(0, x, y));
            }
        }
        GridStore store = holding("1 1 1");
        store.grid(3, 1);
        due("a new grid's cells, behind one with numbers", ". . .", cells(store, 1));
        due("cells with numbers", 3, store.count(4));
    }

    private static void piecesOfEightByEight() {
        sentence("PIECES: 8 x 8 CELLS each: PIECE (p, q) has those with x by 8 p and y by 8 q, rounded down");
        int[][] cells = {{0, 0}, {7, 0}, {8, 0}, {15, 0}, {16, 0}, {0, 7}, {0, 8}, {7, 7}, {8, 7}, {7, 8}, {8, 8},
            {15, 15}, {16, 15}, {15, 16}, {16, 16}, {0, 15}, {0, 16}, {23, 23}, {23, 0}, {0, 23}};
        String[] told = {"2 0 0 / 0 0 0 / 0 0 0", "2 0 0 / 0 0 0 / 0 0 0", "0 2 0 / 0 0 0 / 0 0 0",
            "0 2 0 / 0 0 0 / 0 0 0", "0 0 2 / 0 0 0 / 0 0 0", "2 0 0 / 0 0 0 / 0 0 0", "0 0 0 / 2 0 0 / 0 0 0",
            "2 0 0 / 0 0 0 / 0 0 0", "0 2 0 / 0 0 0 / 0 0 0", "0 0 0 / 2 0 0 / 0 0 0", "0 0 0 / 0 2 0 / 0 0 0",
            "0 0 0 / 0 2 0 / 0 0 0", "0 0 0 / 0 0 2 / 0 0 0", "0 0 0 / 0 0 0 / 0 2 0", "0 0 0 / 0 0 0 / 0 0 2",
            "0 0 0 / 2 0 0 / 0 0 0", "0 0 0 / 0 0 0 / 2 0 0", "0 0 0 / 0 0 0 / 0 0 2", "0 0 2 / 0 0 0 / 0 0 0",
            "0 0 0 / 0 0 0 / 2 0 0"};
        for (int i = 0; i < cells.length; i++) {
            GridStore store = new GridStore();
            store.grid(24, 24);
            store.keep(0);
            store.set(0, cells[i][0], cells[i][1], 1);
            String cell = "cell (" + cells[i][0] + ", " + cells[i][1] + ")";
            due(cell + " is in this piece", told[i], kinds(store, 0));
            due(cell + " makes one piece differ", 1, store.differ(0, 0, -1));
            due(cell + " is read in one piece", 1, store.read(0, cells[i][0], cells[i][1], 1, 1));
        }
        GridStore store = new GridStore();
        store.grid(24, 24);
        store.fill(0, 8, 8, 8, 8, 3);
        due("8 x 8 cells make the piece flat", "0 0 0 / 0 1 0 / 0 0 0", kinds(store, 0));
        store.dig(0, 15, 15);
        due("with one cell less it is not", "0 0 0 / 0 3 0 / 0 0 0", kinds(store, 0));
    }

    private static void piecesAtTheRims() {
        sentence("(fewer at the rims)");
        int[] sizes = {1, 7, 8, 9, 15, 16, 17, 24, 25, 32, 33, 39, 40};
        int[] pieces = {1, 1, 1, 2, 2, 2, 3, 3, 4, 4, 5, 5, 5};
        for (int i = 0; i < sizes.length; i++) {
            needPieces(sizes[i], 1, pieces[i], 1);
            needPieces(1, sizes[i], 1, pieces[i]);
            needPieces(sizes[i], 40, pieces[i], 5);
        }
        needPieces(41, 40, 6, 5);
        needPieces(47, 9, 6, 2);
        needPieces(48, 40, 6, 5);
        GridStore store = new GridStore();
        store.grid(9, 10);
        due("fill of the rims", 9 * 10 - 64, store.fill(0, 8, 0, 1, 10, 2) + store.fill(0, 0, 8, 8, 2, 2));
        due("rims of 1 x 8, 8 x 2 and 1 x 2 cells", "0 1 / 1 1", kinds(store, 0));
    }

    private static void needPieces(int wide, int high, int piecesWide, int piecesHigh) {
        String size = "of " + wide + " x " + high;
        State state = new State(s -> s.grid(wide, high), s -> s.set(0, wide - 1, high - 1, 7));
        GridStore store = state.made();
        boolean oneCell = wide % 8 == 1 && high % 8 == 1;
        due("the last piece " + size, oneCell ? 1 : 2, store.kind(0, piecesWide - 1, piecesHigh - 1));
        unchanged("no piece behind " + size, state, NO_SUCH_PLACE, s -> s.kind(0, piecesWide, piecesHigh - 1));
        unchanged("no piece under " + size, state, NO_SUCH_PLACE, s -> s.kind(0, piecesWide - 1, piecesHigh));
        due("bare pieces " + size, piecesWide * piecesHigh - 1, store.count(5));
        due("read of all " + size, piecesWide * piecesHigh, store.read(0, 0, 0, wide, high));
    }

    private static void kindBare() {
        sentence("0 BARE: all HOLES");
        GridStore store = new GridStore();
        store.grid(16, 8);
        due("at first", "0 0", kinds(store, 0));
        store.set(0, 7, 7, 0);
        due("with one number", "2 0", kinds(store, 0));
        store.dig(0, 7, 7);
        due("with none again", "0 0", kinds(store, 0));
        due("counted", 2, store.count(5));
    }

    private static void kindFlat() {
        sentence("1 FLAT: all its CELLS have numbers, and one");
        for (int v : EDGE_NUMBERS) {
            GridStore store = new GridStore();
            store.grid(8, 8);
            store.fill(0, 0, 0, 8, 8, v);
            due("all " + v, 1, store.kind(0, 0, 0));
            int[][] corners = {{0, 0}, {7, 0}, {0, 7}, {7, 7}, {3, 4}};
            for (int[] cell : corners) {
                store.set(0, cell[0], cell[1], v ^ 1);
                due("but for one cell", 3, store.kind(0, 0, 0));
                store.set(0, cell[0], cell[1], v ^ LEAST);
                due("but for another bit", 3, store.kind(0, 0, 0));
                store.dig(0, cell[0], cell[1]);
                due("but for a hole", 3, store.kind(0, 0, 0));
                store.set(0, cell[0], cell[1], v);
                due("all again", 1, store.kind(0, 0, 0));
            }
            due("counted", 1, store.count(6));
        }
    }

    private static void kindSparse() {
        sentence("2 SPARSE: at most 12 of them have numbers");
        GridStore store = new GridStore();
        store.grid(8, 8);
        for (int n = 1; n <= 64; n++) {
            store.set(0, (n * 5) % 8, (n - 1) / 8, n);
            due("with " + n + " unlike numbers", n <= 12 ? 2 : 3, store.kind(0, 0, 0));
        }
        GridStore alike = new GridStore();
        alike.grid(8, 8);
        for (int n = 1; n <= 64; n++) {
            alike.set(0, (n * 3) % 8, (n - 1) / 8, 6);
            due("with " + n + " alike", n <= 12 ? 2 : n < 64 ? 3 : 1, alike.kind(0, 0, 0));
        }
        for (int n = 63; n >= 0; n--) {
            alike.dig(0, n % 8, n / 8);
            due("with " + n + " again", n == 0 ? 0 : n <= 12 ? 2 : 3, alike.kind(0, 0, 0));
        }
    }

    private static void kindFull() {
        sentence("3 FULL: any other one");
        GridStore store = new GridStore();
        store.grid(8, 8);
        store.fill(0, 0, 0, 8, 1, 1);
        store.fill(0, 0, 1, 5, 1, 1);
        due("13 alike", 3, store.kind(0, 0, 0));
        due("counted", 1, store.count(8));
        store.dig(0, 4, 1);
        due("12 alike", 2, store.kind(0, 0, 0));
        due("no longer counted", 0, store.count(8));
        store.fill(0, 0, 0, 8, 8, 1);
        store.set(0, 0, 0, 2);
        due("64, but not alike", 3, store.kind(0, 0, 0));
    }

    private static void firstKindThatHolds() {
        sentence("the first of these that holds");
        GridStore store = holding("5", "1 2", "3 3", "1 2 3 4 / 1 2 3 4 / 1 2 3 4", "4 4 4 4 / 4 4 4 4 / 4 4 4 4",
            "1 2 3 4 5 6 7 / 1 2 3 4 5 6 7", "1 1 1 1 1 1 1 / 1 1 1 1 1 1 1");
        int[] told = {1, 2, 1, 2, 1, 3, 1};
        for (int g = 0; g < told.length; g++) {
            due("kind of " + cells(store, g), told[g], store.kind(g, 0, 0));
        }
        store.dig(0, 0, 0);
        due("one hole alone is bare, not sparse", 0, store.kind(0, 0, 0));
        store.dig(2, 0, 0);
        due("a hole and a number are sparse", 2, store.kind(2, 0, 0));
        store.dig(5, 6, 1);
        due("13 of 14 are full", 3, store.kind(5, 0, 0));
        store.dig(5, 0, 0);
        due("12 of 14 are sparse", 2, store.kind(5, 0, 0));
    }

    private static void hostsOfPieces() {
        sentence("PIECE (p, q) of each GRID lies on HOST p and q together, modulo 5, and on the next one (4's is 0)");
        for (int first = 0; first < 5; first++) {
            for (int second = first + 1; second < 5; second++) {
                // the pieces that lie on both are those of the lower host, but those on 4 and 0 are those of 4
                int bare = second == first + 1 ? first : first == 0 && second == 4 ? 4 : NONE_OF_THEM;
                needBare(first, second, bare);
                needBare(second, first, bare);
            }
        }
    }

    private static void needBare(int first, int second, int bare) {
        GridStore store = new GridStore();
        store.grid(48, 40);
        store.fill(0, 0, 0, 48, 40, 9);
        store.lose(first, true);
        store.lose(second, true);
        for (int q = 0; q < 5; q++) {
            for (int p = 0; p < 6; p++) {
                boolean lost = p + q == bare || p + q == bare + 5;
                String piece = "piece (" + p + ", " + q + "), hosts " + first + " and " + second + " lost, ";
                due(piece + "kind", lost ? 0 : 1, store.kind(0, p, q));
                due(piece + "written at its first cell", !lost, store.set(0, 8 * p, 8 * q, 1));
                due(piece + "written at its last cell", !lost, store.set(0, 8 * p + 7, 8 * q + 7, 1));
            }
        }
    }

    private static void hostsNotLostAtFirst() {
        sentence("A HOST is LOST, or not (at first)");
        GridStore store = new GridStore();
        due("hosts lost at first", 0, store.count(3));
        for (int host = 0; host < 5; host++) {
            due("host " + host + " is there at first", false, store.lose(host, false));
            due("is lost", true, store.lose(host, true));
            due("is lost already", false, store.lose(host, true));
            due("hosts lost", host + 1, store.count(3));
        }
        for (int host = 0; host < 5; host++) {
            due("host " + host + " is there again", true, store.lose(host, false));
            due("hosts lost", 4 - host, store.count(3));
        }
        State state = new State(s -> s.grid(9, 9), s -> s.fill(0, 0, 0, 9, 9, 1), s -> s.lose(0, true),
            s -> s.lose(3, true));
        for (int host : new int[] {-1, 5, 6, LEAST, MOST}) {
            unchanged("host " + host + " lost", state, NO_SUCH_PLACE, s -> s.lose(host, true));
            unchanged("host " + host + " there again", state, NO_SUCH_PLACE, s -> s.lose(host, false));
        }
        unchanged("host 3 lost once more", state, false, s -> s.lose(3, true));
        unchanged("host 4 there once more", state, false, s -> s.lose(4, false));
    }

    private static void lostPiecesBecomeBare() {
        sentence("When one is LOST, each PIECE both of whose HOSTS are LOST then becomes BARE");
        State full = new State(s -> s.grid(17, 9), s -> s.grid(3, 3), s -> s.fill(0, 0, 0, 17, 9, 1),
            s -> s.fill(1, 0, 0, 3, 3, 2));
        GridStore store = full.made();
        store.lose(1, true);
        due("by one host of two", "1 1 1 / 1 1 1", kinds(store, 0));
        store.lose(2, true);
        due("by both", "1 0 1 / 0 1 1", kinds(store, 0));
        due("a grid without such a piece", "1", kinds(store, 1));
        store.lose(0, true);
        due("by a third one", "0 0 1 / 0 1 1", kinds(store, 0));
        due("in each grid", "0", kinds(store, 1));
        store.lose(0, false);
        store.lose(1, false);
        store.lose(2, false);
        due("there again, nothing comes back", "0 0 1 / 0 1 1", kinds(store, 0));
        due("in any grid", ". . . / . . . / . . .", cells(store, 1));
        GridStore all = full.made();
        for (int host = 0; host < 5; host++) {
            all.lose(host, true);
        }
        due("by all hosts", "0 0 0 / 0 0 0", kinds(all, 0));
        due("cells with numbers", 0, all.count(4));
        GridStore between = full.made();
        between.lose(0, true);
        between.lose(0, false);
        between.lose(1, true);
        due("by one and then by the other one", "1 1 1 / 1 1 1", kinds(between, 0));
    }

    private static void layersKeepWhatTheyHave() {
        sentence("(in what GRIDS have now; LAYERS keep what they have)");
        GridStore store = holding("1 2", "3");
        store.keep(0);
        store.keep(1);
        store.lose(0, true);
        store.lose(1, true);
        due("now", ". .", cells(store, 0));
        due("in the layer", 2, store.was(0, 0, 1, 0));
        due("in another grid's layer", 3, store.was(1, 0, 0, 0));
        due("the layer is unlike now", 1, store.differ(0, 0, -1));
        due("layers", 2, store.count(2));
        due("a layer kept now", 1, store.keep(0));
        refused("is of holes", NO_NUMBER, () -> store.was(0, 1, 0, 0));
        store.lose(1, false);
        due("back where it can be written again", 2, store.back(0, 0));
        due("what the layer kept", "1 2", cells(store, 0));
    }

    private static void numbersAreRefused() {
        sentence("nothing can be written there: a number that is written to one of its CELLS is refused");
        State state = new State(s -> s.grid(17, 17), s -> s.grid(8, 8), s -> s.fill(0, 0, 0, 17, 17, 1),
            s -> s.view(0, 0, 0, 17, 17, 1, true), s -> s.lose(1, true), s -> s.lose(2, true));
        int[][] lost = {{8, 0}, {15, 0}, {8, 7}, {15, 7}, {0, 8}, {7, 8}, {0, 15}, {7, 15}};
        int[][] there = {{7, 0}, {16, 0}, {7, 7}, {8, 8}, {16, 7}, {15, 8}, {7, 16}, {0, 16}, {16, 16}, {0, 7}};
        for (int[] cell : lost) {
            String where = " in lost cell (" + cell[0] + ", " + cell[1] + ")";
            unchanged("set" + where, state, false, s -> s.set(0, cell[0], cell[1], 5));
            unchanged("set of 0" + where, state, false, s -> s.set(0, cell[0], cell[1], 0));
            unchanged("dig" + where, state, false, s -> s.dig(0, cell[0], cell[1]));
            unchanged("fill" + where, state, 0, s -> s.fill(0, cell[0], cell[1], 1, 1, 5));
            // turned once and flipped, the view shows cell (x, y) at (y, x)
            unchanged("set through a view" + where, state, false, s -> s.set(100, cell[1], cell[0], 5));
            unchanged("fill through a view" + where, state, 0, s -> s.fill(100, cell[1], cell[0], 1, 1, 5));
        }
        for (int[] cell : there) {
            GridStore store = state.made();
            String where = " in cell (" + cell[0] + ", " + cell[1] + ")";
            due("set" + where, true, store.set(0, cell[0], cell[1], 5));
            due("is there" + where, 5, store.get(0, cell[0], cell[1]));
            due("set through a view" + where, true, store.set(100, cell[1], cell[0], 6));
            due("is there" + where, 6, store.get(0, cell[0], cell[1]));
        }
        GridStore store = state.made();
        due("a piece of another grid on other hosts", true, store.set(1, 0, 0, 5));
        store.grid(9, 1);
        due("a grid made since", false, store.set(2, 8, 0, 5));
        due("its other piece", true, store.set(2, 7, 0, 5));
    }

    private static void writtenAsLongAsOneIsThere() {
        sentence("as long as both are, nothing can be written there");
        for (int there = 0; there < 3; there++) {
            GridStore store = new GridStore();
            store.grid(8, 8);
            if (there != 0) {
                store.lose(0, true);
            }
            if (there != 1) {
                store.lose(1, true);
            }
            due("both are lost", there != 2, store.set(0, 7, 7, 1));
            due("a fill then", there == 2 ? 0 : 64, store.fill(0, 0, 0, 8, 8, 2));
            store.lose(0, false);
            due("one is there again", true, store.set(0, 7, 7, 3));
            store.lose(1, false);
            due("both are there again", true, store.set(0, 0, 0, 3));
        }
    }

    /** Views with numbers alone, 10 x 9 (100) and 20 x 16 (101), and grid 1, which held 0s, its lost cells holes now. */
    private static GridStore withLostTarget(int wide, int high) {
        GridStore store = new GridStore();
        store.grid(48, 40);
        store.fill(0, 0, 0, 48, 40, 3);
        store.view(0, 16, 0, 10, 9, 0, false);
        store.view(0, 16, 0, 20, 16, 0, false);
        store.grid(wide, high);
        store.fill(1, 0, 0, wide, high, 0);
        store.keep(1);
        store.lose(1, true);
        store.lose(2, true);
        return store;
    }

    /** The lost cells of grid 1 are those of pieces (1, 0) and (0, 1): they stay holes, and the others are written. */
    private static void needPassedBy(String act, GridStore store, int changed, int answered) {
        int wide = store.size(1, false);
        int high = store.size(1, true);
        due(act + " tells the cells that it wrote alone", changed, answered);
        for (int x = 0; x < wide; x++) {
            due(act + ", row 0, a hole at " + x, x >= 8, store.hole(1, x, 0));
            due(act + ", last row, a hole at " + x, x >= 8 != high > 8, store.hole(1, x, high - 1));
        }
        for (int y = 0; y < high; y++) {
            due(act + ", column 0, a hole at " + y, y >= 8, store.hole(1, 0, y));
            due(act + ", last column, a hole at " + y, y >= 8 != wide > 8, store.hole(1, wide - 1, y));
        }
    }

    private static void fillPassesBy() {
        sentence("(or, in acts that write many, that CELL is passed by)");
        GridStore store = withLostTarget(10, 9);
        needPassedBy("fill", store, 90 - 24, store.fill(1, 0, 0, 10, 9, 5));
        due("a fill again", 0, store.fill(1, 0, 0, 10, 9, 5));
        due("a fill over a rim", 2, store.fill(1, 7, 6, 2, 2, 6));
        store.view(1, 0, 0, 10, 9, 1, false);
        due("a fill through a turned view", 90 - 24, store.fill(102, 0, 0, 9, 10, 7));
    }

    private static void actsPassBy() {
        sentence("(or, in acts that write many, that CELL is passed by)");
        GridStore store = withLostTarget(10, 9);
        needPassedBy("slide", store, 90 - 24, store.slide(100, 1, 1));
        due("slide again", 0, store.slide(100, 1, 1));
        store = withLostTarget(10, 9);
        needPassedBy("join", store, 90 - 24, store.join(100, 100, 0, 1));
        due("join again", 0, store.join(100, 100, 0, 1));
        store = withLostTarget(10, 1);
        needPassedBy("fold along y", store, 8, store.fold(100, true, 1));
        due("fold again", 0, store.fold(100, true, 1));
        store = withLostTarget(1, 9);
        needPassedBy("fold along x", store, 8, store.fold(100, false, 1));
        store = withLostTarget(10, 8);
        needPassedBy("coarse", store, 64, store.coarse(101, 2, 1));
        due("coarse again", 0, store.coarse(101, 2, 1));
    }

    private static void backPassesBy() {
        sentence("BACK: the GRID has what a LAYER has (where it can be written; elsewhere HOLES)");
        GridStore store = withLostTarget(10, 9);
        store.fill(1, 0, 0, 10, 9, 8);
        needPassedBy("back", store, 90 - 24, store.back(1, 0));
        due("back again", 0, store.back(1, 0));
        due("what the layer has", 0, store.get(1, 9, 8));
        store.lose(2, false);
        due("back where it can be written again", 24, store.back(1, 0));
        due("is all that the layer has", 0, store.differ(1, -1, 0));
    }

    private static void layersAtMostTwenty() {
        sentence("LAYERS of a GRID (at most 20, numbered from 0 on)");
        State state = new State(s -> s.grid(2, 1), s -> s.grid(1, 1));
        GridStore store = state.made();
        for (int layer = 0; layer < 20; layer++) {
            int next = layer;
            refused("layer " + layer + " ahead of its keeping", NO_SUCH_PLACE, () -> store.was(0, next, 1, 0));
            refused("back to it", NO_SUCH_PLACE, () -> store.back(0, next));
            refused("differ from it", NO_SUCH_PLACE, () -> store.differ(0, -1, next));
            store.set(0, 0, 0, layer);
            due("the next layer", layer, store.keep(0));
            due("layers", layer + 1, store.count(2));
            due("it differs from none", 0, store.differ(0, layer, -1));
            state = state.then(s -> s.set(0, 0, 0, next), s -> s.keep(0));
        }
        unchanged("a layer too many", state, -1, s -> s.keep(0));
        unchanged("layers too many", state, -1, s -> s.keep(0) + s.keep(0) + 1);
        for (int layer = 0; layer < 20; layer++) {
            due("what layer " + layer + " kept", layer, store.was(0, layer, 0, 0));
        }
        for (int layer : new int[] {-1, 20, 21, LEAST, MOST}) {
            unchanged("was in layer " + layer, state, NO_SUCH_PLACE, s -> s.was(0, layer, 0, 0));
            unchanged("back to layer " + layer, state, NO_SUCH_PLACE, s -> s.back(0, layer));
        }
        for (int grid = 1; grid < 8; grid++) {
            due("another grid", true, grid == 1 || store.grid(1, 1) == grid);
            for (int layer = 0; layer < 20; layer++) {
                due("a layer of another grid", layer, store.keep(grid));
            }
            due("a layer too many of it", -1, store.keep(grid));
        }
        due("layers of all grids", 160, store.count(2));
    }

    private static void layersOfAGrid() {
        sentence("what it had when each was KEPT");
        GridStore store = holding("1 .", "5 6");
        store.keep(0);
        store.set(0, 1, 0, 2);
        store.keep(1);
        store.keep(0);
        store.dig(0, 0, 0);
        due("the first layer", 1, store.was(0, 0, 0, 0));
        refused("a hole in it", NO_NUMBER, () -> store.was(0, 0, 1, 0));
        due("the second layer", 2, store.was(0, 1, 1, 0));
        due("a number dug since", 1, store.was(0, 1, 0, 0));
        due("another grid's first layer", 6, store.was(1, 0, 1, 0));
        refused("it has no second one", NO_SUCH_PLACE, () -> store.was(1, 1, 0, 0));
        store.back(0, 0);
        store.set(0, 0, 0, 9);
        due("a layer stays when the grid had it back", 1, store.was(0, 0, 0, 0));
    }

    private static void backToALayer() {
        sentence("BACK: the GRID has what a LAYER has");
        State state = new State(s -> s.grid(3, 1), s -> s.set(0, 0, 0, 1), s -> s.set(0, 1, 0, 2), s -> s.keep(0),
            s -> s.dig(0, 0, 0), s -> s.set(0, 1, 0, 3), s -> s.set(0, 2, 0, 4), s -> s.keep(0));
        GridStore store = state.made();
        due("a number for a hole, for another one, and a hole for one", 3, store.back(0, 0));
        due("the cells then", "1 2 .", cells(store, 0));
        due("layers stay, later ones too", 2, store.count(2));
        due("on to the later one", 3, store.back(0, 1));
        due("the cells then", ". 3 4", cells(store, 0));
        unchanged("back to what it has", state, 0, s -> s.back(0, 1));
        unchanged("there and back", state, 6, s -> s.back(0, 0) + s.back(0, 1));
    }

    private static void atMost512Calls() {
        sentence("An object is used for at most 512 calls after it has been made");
        GridStore store = new GridStore();
        store.grid(48, 40);
        store.grid(48, 40);
        for (int call = 2; call < 510; call++) {
            due("call " + (call + 1), true, store.set(0, call % 48, call / 48, call));
        }
        due("call 511", 508, store.slide(0, 0, 1));
        due("call 512", 509, store.get(1, 509 % 48, 509 / 48));
    }
}
