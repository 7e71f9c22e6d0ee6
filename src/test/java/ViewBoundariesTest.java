/** Terms 2, sentence by sentence: VIEWS, their rectangles, turns and flips, and what they write. */
public final class ViewBoundariesTest extends Checks {
    private static final int[] NUMBERS_OF_NOTHING = {LEAST, -1, 8, 9, 12, 50, 99, 112, 113, 200, MOST};

    private interface OfOne {
        Object on(GridStore store, int of);
    }

    public static void main(String[] args) {
        viewsAtMostTwelve();
        ofViewsThatThereWereBefore();
        rectanglesAllWithin();
        rectanglesOfViews();
        quarters();
        turnedOnce();
        turnedMore();
        flippedBehindThat();
        noCellsOfItsOwn();
        closed();
        closedAlone();
        byOneNumber();
        gridsAlone();
        finish("ViewBoundariesTest");
    }

    private static void viewsAtMostTwelve() {
        sentence("VIEWS (at most 12, numbered from 0 on)");
        State state = new State(s -> s.grid(13, 2));
        GridStore store = state.made();
        for (int v = 0; v < 12; v++) {
            int next = v;
            refused("view " + v + " ahead of its making", NO_SUCH_PLACE, () -> store.size(100 + next, false));
            refused("close of it", NO_SUCH_PLACE, () -> store.close(next, true));
            due("the next view", v, store.view(0, v, 0, 1, 1, 0, false));
            due("views", v + 1, store.count(1));
            due("set through it", true, store.set(100 + v, 0, 0, 50 + v));
            state = state.then(s -> s.view(0, next, 0, 1, 1, 0, false), s -> s.set(100 + next, 0, 0, 50 + next));
        }
        due("what was set", "50 51 52 53 54 55 56 57 58 59 60 61 . / . . . . . . . . . . . . .", cells(store, 0));
        unchanged("a thirteenth view", state, TOO_MANY, s -> s.view(0, 0, 0, 1, 1, 0, false));
        unchanged("a thirteenth view, of a view", state, TOO_MANY, s -> s.view(111, 0, 0, 1, 1, 3, true));
        State withTwo = new State(s -> s.grid(2, 1), s -> s.grid(1, 1));
        for (int v = 0; v < 12; v++) {
            int of = v % 2;
            withTwo = withTwo.then(s -> s.view(of, 0, 0, 1, 1, 0, false));
        }
        unchanged("a thirteenth view, of grids together", withTwo, TOO_MANY, s -> s.view(1, 0, 0, 1, 1, 0, false));
    }

    private static void ofViewsThatThereWereBefore() {
        sentence("of a GRID, or of a VIEW that there was before");
        State state = new State(s -> s.grid(4, 3), s -> s.grid(2, 2), s -> s.set(0, 3, 2, 7),
            s -> s.view(0, 0, 0, 4, 3, 0, false), s -> s.view(100, 1, 1, 3, 2, 1, false));
        for (int of : new int[] {0, 1, 100, 101}) {
            due("a view of " + of, 2, state.made().view(of, 0, 0, 1, 1, 0, false));
        }
        for (int of : new int[] {-1, 2, 7, 8, 99, 102, 103, 111, 112, LEAST, MOST}) {
            unchanged("a view of " + of, state, NO_SUCH_PLACE, s -> s.view(of, 0, 0, 1, 1, 0, false));
        }
        GridStore store = new GridStore();
        store.grid(48, 40);
        store.set(0, 11, 0, 1);
        store.set(0, 0, 11, 2);
        for (int v = 0; v < 12; v++) {
            due("a view of the one before", v, store.view(v == 0 ? 0 : 99 + v, 1, 0, 47 - v, 40, 0, false));
        }
        due("twelve deep", 36, store.size(111, false));
        due("is cut twelve times", true, store.hole(111, 0, 0));
        due("the eleventh shows the cell", 1, store.get(110, 0, 0));
        due("written twelve deep", true, store.set(111, 0, 0, 3));
        due("in the grid", 3, store.get(0, 12, 0));
    }

    private static void rectanglesAllWithin() {
        sentence("a rectangle of it (from (x, y) on, so wide, so high, all within)");
        State state = new State(s -> s.grid(10, 9), s -> s.set(0, 9, 8, 5), s -> s.grid(48, 40));
        int[][] within = {{0, 0, 10, 9}, {0, 0, 1, 1}, {9, 8, 1, 1}, {9, 0, 1, 9}, {0, 8, 10, 1}, {1, 1, 9, 8},
            {0, 0, 10, 1}, {0, 0, 1, 9}, {8, 7, 2, 2}};
        for (int[] r : within) {
            needRectangle(state, 0, r);
        }
        int[][] none = {{0, 0, 11, 9}, {0, 0, 10, 10}, {1, 0, 10, 9}, {0, 1, 10, 9}, {9, 8, 2, 1}, {9, 8, 1, 2},
            {9, 0, 2, 1}, {0, 8, 1, 2}, {8, 7, 3, 1}, {8, 7, 1, 3}, {0, 0, 0, 1}, {0, 0, 1, 0}, {0, 0, 0, 0},
            {5, 5, 0, 2}, {5, 5, 2, 0}, {5, 5, -1, 1}, {5, 5, 1, -1}, {9, 8, -1, -1}, {5, 5, LEAST, 1},
            {5, 5, 1, LEAST}, {0, 0, MOST, 1}, {0, 0, 1, MOST}, {1, 1, MOST, 1}, {1, 1, 1, MOST}, {9, 8, MOST, MOST}};
        for (int[] r : none) {
            needNoRectangle(state, 0, r);
        }
        sentence("a rectangle that begins outside is not within");
        int[][] outside = {{-1, 0, 1, 1}, {0, -1, 1, 1}, {-1, -1, 10, 9}, {10, 0, 1, 1}, {0, 9, 1, 1}, {-1, 0, 11, 9},
            {LEAST, 0, 1, 1}, {0, LEAST, 1, 1}, {MOST, 0, 1, 1}, {0, MOST, 1, 1}, {MOST, 0, MOST, 1},
            {0, MOST, 1, MOST}, {10, 0, 0, 1}, {0, 9, 1, 0}, {-1, 0, 2, 1}, {0, -1, 1, 2}};
        for (int[] r : outside) {
            needNoRectangle(state, 0, r);
        }
        needRectangle(state, 1, new int[] {0, 0, 48, 40});
        needRectangle(state, 1, new int[] {47, 39, 1, 1});
        needNoRectangle(state, 1, new int[] {0, 0, 49, 40});
        needNoRectangle(state, 1, new int[] {0, 0, 48, 41});
        needNoRectangle(state, 1, new int[] {47, 39, 2, 1});
        needNoRectangle(state, 1, new int[] {47, 39, 1, 2});
    }

    private static String told(int of, int[] r) {
        return " of " + of + " from (" + r[0] + ", " + r[1] + "), " + r[2] + " x " + r[3];
    }

    private static void needRectangle(State state, int of, int[] r) {
        GridStore store = state.made();
        int numbers = store.count(4);
        int views = store.count(1);
        int changed = store.fill(of, r[0], r[1], r[2], r[3], 77);
        due("fill" + told(of, r), r[2] * r[3], changed);
        due("view" + told(of, r), views, store.view(of, r[0], r[1], r[2], r[3], 0, false));
        due("its width", r[2], store.size(100 + views, false));
        due("its height", r[3], store.size(100 + views, true));
        due("its first cell", 77, store.get(100 + views, 0, 0));
        due("its last cell", 77, store.get(100 + views, r[2] - 1, r[3] - 1));
        int more = r[0] + r[2] == 10 && r[1] + r[3] == 9 && of == 0 ? 0 : numbers;
        due("numbers then", r[2] * r[3] + more, store.count(4));
        int acrossFrom = r[0] / 8;
        int alongFrom = r[1] / 8;
        int pieces = ((r[0] + r[2] + 7) / 8 - acrossFrom) * ((r[1] + r[3] + 7) / 8 - alongFrom);
        due("read" + told(of, r), pieces, store.read(of, r[0], r[1], r[2], r[3]));
    }

    private static void needNoRectangle(State state, int of, int[] r) {
        unchanged("view" + told(of, r), state, WRONG, s -> s.view(of, r[0], r[1], r[2], r[3], 0, false));
        unchanged("fill" + told(of, r), state, WRONG, s -> s.fill(of, r[0], r[1], r[2], r[3], 77));
        unchanged("read" + told(of, r), state, WRONG, s -> s.read(of, r[0], r[1], r[2], r[3]));
    }

    private static void rectanglesOfViews() {
        sentence("a rectangle of it: of the VIEW, not of what the VIEW is of");
        // 9 wide and 10 high, and then 3 wide and 2 high, with more of the grid on each side
        State state = new State(s -> s.grid(12, 12), s -> s.view(0, 1, 2, 10, 9, 1, false),
            s -> s.view(100, 2, 3, 2, 3, 3, true));
        for (int[] r : new int[][] {{0, 0, 9, 10}, {8, 9, 1, 1}, {0, 9, 9, 1}, {8, 0, 1, 10}}) {
            GridStore store = state.made();
            due("fill" + told(100, r), r[2] * r[3], store.fill(100, r[0], r[1], r[2], r[3], 1));
            due("view" + told(100, r), 2, store.view(100, r[0], r[1], r[2], r[3], 2, true));
            due("is filled", 1, store.get(102, r[2] - 1, r[3] - 1));
        }
        for (int[] r : new int[][] {{0, 0, 10, 9}, {0, 0, 10, 1}, {0, 0, 1, 11}, {8, 9, 2, 1}, {8, 9, 1, 2}}) {
            needNoRectangle(state, 100, r);
        }
        GridStore store = state.made();
        due("fill of all of a view's view", 6, store.fill(101, 0, 0, 3, 2, 1));
        due("view of all of it", 2, store.view(101, 0, 0, 3, 2, 0, false));
        for (int[] r : new int[][] {{0, 0, 4, 2}, {0, 0, 3, 3}, {0, 0, 2, 3}, {2, 1, 2, 1}, {2, 1, 1, 2}}) {
            needNoRectangle(state, 101, r);
        }
    }

    private static void quarters() {
        sentence("and then turned by 0 to 3 quarters");
        State state = new State(s -> s.grid(2, 1), s -> s.set(0, 0, 0, 1), s -> s.set(0, 1, 0, 2));
        String[] told = {"1 2", "1 / 2", "2 1", "2 / 1"};
        for (int quarters = 0; quarters < 4; quarters++) {
            GridStore store = state.made();
            due("turned by " + quarters, 0, store.view(0, 0, 0, 2, 1, quarters, false));
            due("shows", told[quarters], cells(store, 100));
        }
        for (int quarters : new int[] {-1, 4, 5, 8, LEAST, MOST}) {
            unchanged("turned by " + quarters, state, WRONG, s -> s.view(0, 0, 0, 2, 1, quarters, false));
            unchanged("flipped, turned by " + quarters, state, WRONG, s -> s.view(0, 0, 0, 2, 1, quarters, true));
        }
    }

    private static void turnedOnce() {
        sentence("Turned once: CELL (u, v) of the VIEW is CELL (v, high - 1 - u) of the rectangle");
        int[][] sizes = {{1, 1}, {1, 5}, {5, 1}, {4, 3}, {3, 4}, {5, 5}};
        for (int[] size : sizes) {
            int wide = size[0];
            int high = size[1];
            GridStore store = numbered(7, 7);
            store.view(0, 2, 1, wide, high, 1, false);
            due("is as wide as the rectangle is high", high, store.size(100, false));
            due("is as high as the rectangle is wide", wide, store.size(100, true));
            for (int u = 0; u < high; u++) {
                for (int v = 0; v < wide; v++) {
                    due("cell (" + u + ", " + v + ")", store.get(0, 2 + v, 1 + high - 1 - u), store.get(100, u, v));
                }
            }
            refused("no cell behind it", NO_SUCH_PLACE, () -> store.get(100, high, 0));
            refused("no cell under it", NO_SUCH_PLACE, () -> store.get(100, 0, wide));
        }
        GridStore store = numbered(48, 4);
        store.view(0, 0, 0, 48, 4, 1, false);
        due("a view may be higher than a grid", 48, store.size(100, true));
        due("its last cell", 47, store.get(100, 3, 47));
    }

    /** Cell (x, y) of the grid holds x and 100 times y. */
    private static GridStore numbered(int wide, int high) {
        GridStore store = new GridStore();
        store.grid(wide, high);
        for (int i = 0; i < wide * high; i++) {
            store.set(0, i % wide, i / wide, i % wide + 100 * (i / wide));
        }
        return store;
    }

    private static void turnedMore() {
        sentence("more quarters: as if once again, each time");
        for (int quarters = 1; quarters < 4; quarters++) {
            GridStore store = numbered(5, 4);
            store.view(0, 1, 1, 4, 3, quarters, false);
            for (int turn = 0; turn < quarters; turn++) {
                int of = turn == 0 ? 0 : 100 + turn;
                boolean lying = turn % 2 == 0;
                store.view(of, turn == 0 ? 1 : 0, turn == 0 ? 1 : 0, lying ? 4 : 3, lying ? 3 : 4, 1, false);
            }
            due(quarters + " quarters at once, or one by one", cells(store, 100 + quarters), cells(store, 100));
        }
        GridStore store = numbered(4, 3);
        store.view(0, 0, 0, 4, 3, 3, false);
        store.view(100, 0, 0, 3, 4, 1, false);
        due("four quarters in all", cells(store, 0), cells(store, 101));
    }

    private static void flippedBehindThat() {
        sentence("Flipped behind that: CELL (u, v) is what CELL (wide - 1 - u, v) of the turned one was");
        for (int quarters = 0; quarters < 4; quarters++) {
            GridStore store = numbered(6, 5);
            store.view(0, 1, 1, 4, 3, quarters, false);
            store.view(0, 1, 1, 4, 3, quarters, true);
            int wide = store.size(100, false);
            int high = store.size(100, true);
            due("as wide", wide, store.size(101, false));
            due("as high", high, store.size(101, true));
            for (int i = 0; i < wide * high; i++) {
                due(quarters + " quarters, cell " + i, store.get(100, wide - 1 - i % wide, i / wide),
                    store.get(101, i % wide, i / wide));
            }
            store.view(101, 0, 0, wide, high, 0, true);
            due("flipped twice", cells(store, 100), cells(store, 102));
        }
        GridStore store = numbered(3, 4);
        store.view(0, 1, 0, 1, 4, 0, true);
        due("one cell wide, flipped", "1 / 101 / 201 / 301", cells(store, 100));
    }

    private static void noCellsOfItsOwn() {
        sentence("A VIEW has no CELLS of its own: it tells and writes those of its GRID, as they are");
        State state = new State(s -> s.grid(3, 2), s -> s.fill(0, 0, 0, 3, 2, 1), s -> s.keep(0),
            s -> s.view(0, 1, 0, 2, 2, 1, false), s -> s.view(0, 0, 0, 3, 2, 2, false));
        GridStore store = state.made();
        due("counted once", 6, store.count(4));
        due("a set", true, store.set(100, 0, 0, 5));
        due("in the grid", "1 1 1 / 1 5 1", cells(store, 0));
        due("in the other view", "1 5 1 / 1 1 1", cells(store, 101));
        due("a dig", true, store.dig(101, 0, 0));
        due("in the grid", "1 1 1 / 1 5 .", cells(store, 0));
        due("in the other view", "5 1 / . 1", cells(store, 100));
        due("back of the grid", 2, store.back(0, 0));
        due("is seen", "1 1 / 1 1", cells(store, 100));
        store.grid(2, 2);
        store.fill(1, 0, 0, 2, 2, 8);
        due("a grid of its size", 4, store.slide(100, 0, 1));
        due("another grid's view stays", "1 1 / 1 1", cells(store, 100));
        due("views count no cells", 10, store.count(4));
        store.lose(0, true);
        store.lose(1, true);
        due("what is lost is seen", ". . / . .", cells(store, 100));
        GridStore acted = holding(". . .", "1 2 3");
        acted.view(0, 0, 0, 3, 1, 0, true);
        acted.slide(1, 0, 0);
        due("what an act wrote is seen", "3 2 1", cells(acted, 100));
        GridStore over = new GridStore();
        over.grid(4, 4);
        over.view(0, 0, 0, 3, 3, 1, false);
        over.view(0, 1, 1, 3, 3, 0, true);
        due("views may share cells", 9 + 5, over.fill(100, 0, 0, 3, 3, 1) + over.fill(101, 0, 0, 3, 3, 1));
    }

    private static void closed() {
        sentence("It may be CLOSED: it is then not written through");
        State state = new State(s -> s.grid(3, 2), s -> s.set(0, 0, 0, 1), s -> s.set(0, 2, 1, 2),
            s -> s.view(0, 0, 0, 3, 2, 0, false), s -> s.close(0, true));
        unchanged("set", state, false, s -> s.set(100, 0, 0, 9));
        unchanged("set of what it has", state, false, s -> s.set(100, 0, 0, 1));
        unchanged("set of a hole", state, false, s -> s.set(100, 1, 0, 9));
        unchanged("dig", state, false, s -> s.dig(100, 0, 0));
        unchanged("dig of a hole", state, false, s -> s.dig(100, 1, 0));
        unchanged("fill", state, 0, s -> s.fill(100, 0, 0, 3, 2, 9));
        unchanged("set of no cell", state, NO_SUCH_PLACE, s -> s.set(100, 3, 0, 9));
        unchanged("dig of no cell", state, NO_SUCH_PLACE, s -> s.dig(100, 0, 2));
        unchanged("fill of no rectangle", state, WRONG, s -> s.fill(100, 0, 0, 4, 2, 9));
        unchanged("closed once more", state, false, s -> s.close(0, true));
        unchanged("opened and closed", state, true, s -> s.close(0, false) && s.close(0, true));
        GridStore store = state.made();
        due("told", "1 . . / . . 2", cells(store, 100));
        due("summed", 3L, store.sum(100, 1, 0, 2));
        due("found", 102, store.find(100, 2));
        due("read", 1, store.read(100, 0, 0, 3, 2));
        due("cut", 1, store.view(100, 1, 0, 2, 2, 0, false));
        due("opened", true, store.close(0, false));
        due("opened once more", false, store.close(0, false));
        due("set through it", true, store.set(100, 0, 0, 9));
        due("in the grid", 9, store.get(0, 0, 0));
        State open = new State(s -> s.grid(1, 1), s -> s.view(0, 0, 0, 1, 1, 0, false));
        unchanged("an open view opened", open, false, s -> s.close(0, false));
        for (int view : new int[] {-1, 1, 2, 11, 12, 100, 101, LEAST, MOST}) {
            unchanged("close of view " + view, open, NO_SUCH_PLACE, s -> s.close(view, true));
            unchanged("opening of view " + view, open, NO_SUCH_PLACE, s -> s.close(view, false));
        }
    }

    private static void closedAlone() {
        sentence("it (not VIEWS of it, or that it is of) is then not written through");
        // views 100 of the grid, 101 of 100, 102 of 101, and 103 of the grid
        State chain = new State(s -> s.grid(2, 2), s -> s.view(0, 0, 0, 2, 2, 1, false),
            s -> s.view(100, 0, 0, 2, 2, 1, true), s -> s.view(101, 0, 0, 2, 2, 2, false),
            s -> s.view(0, 0, 0, 2, 2, 0, false));
        for (int closed = 0; closed < 4; closed++) {
            GridStore store = chain.made();
            due("closed", true, store.close(closed, true));
            for (int of : new int[] {0, 100, 101, 102, 103}) {
                boolean through = of != 100 + closed;
                due("view " + closed + " closed, set through " + of, through, store.set(of, 0, 0, of));
                due("dig through " + of, through, store.dig(of, 0, 0));
                due("fill through " + of, through ? 4 : 0, store.fill(of, 0, 0, 2, 2, of));
            }
        }
        GridStore store = chain.made();
        store.close(0, true);
        store.close(2, true);
        due("a view made of a closed one is open", 4, store.view(100, 0, 0, 2, 2, 0, false));
        due("set through it", true, store.set(104, 0, 0, 5));
        due("opened is the one alone", true, store.close(0, false));
        due("the other one stays closed", false, store.set(102, 0, 0, 5));
        due("acts into the grid are not through a view", 4, actInto(store));
    }

    private static int actInto(GridStore store) {
        store.grid(2, 2);
        store.fill(1, 0, 0, 2, 2, 44);
        return store.slide(1, 0, 0);
    }

    private static final OfOne[] OF_ONE = {
        (s, of) -> s.view(of, 0, 0, 1, 1, 0, false), (s, of) -> s.size(of, false), (s, of) -> s.size(of, true),
        (s, of) -> s.set(of, 0, 0, 5), (s, of) -> s.dig(of, 0, 0), (s, of) -> s.fill(of, 0, 0, 1, 1, 5),
        (s, of) -> s.hole(of, 0, 0), (s, of) -> s.get(of, 0, 0), (s, of) -> s.sum(of, 0, 0, 0),
        (s, of) -> s.many(of, 0, 0, 0), (s, of) -> s.find(of, 0), (s, of) -> s.slide(of, 0, 1),
        (s, of) -> s.fold(of, false, 1), (s, of) -> s.fold(of, true, 1), (s, of) -> s.join(of, 0, 0, 1),
        (s, of) -> s.join(0, of, 0, 1), (s, of) -> s.coarse(of, 2, 1), (s, of) -> s.read(of, 0, 0, 1, 1)};

    private static final OfOne[] OF_GRID = {
        (s, grid) -> s.kind(grid, 0, 0), (s, grid) -> s.keep(grid), (s, grid) -> s.back(grid, 0),
        (s, grid) -> s.was(grid, 0, 0, 0), (s, grid) -> s.differ(grid, -1, 0), (s, grid) -> s.slide(0, 0, grid),
        (s, grid) -> s.fold(0, false, grid), (s, grid) -> s.fold(0, true, grid), (s, grid) -> s.join(0, 0, 0, grid),
        (s, grid) -> s.coarse(0, 2, grid)};

    /** Grids of one cell each, and views of grid 0. */
    private static State withGridsAndViews(int grids, int views) {
        State state = new State();
        for (int g = 0; g < grids; g++) {
            int grid = g;
            state = state.then(s -> s.grid(1, 1), s -> s.set(grid, 0, 0, 10 + grid), s -> s.keep(grid));
        }
        for (int v = 0; v < views; v++) {
            state = state.then(s -> s.view(0, 0, 0, 1, 1, 0, false));
        }
        return state;
    }

    private static void byOneNumber() {
        sentence("told by one number: 0 to 7 a GRID, 100 and k VIEW k");
        State full = withGridsAndViews(8, 12);
        State some = withGridsAndViews(3, 2);
        for (int call = 0; call < OF_ONE.length; call++) {
            OfOne one = OF_ONE[call];
            for (int of : NUMBERS_OF_NOTHING) {
                unchanged("call " + call + " of " + of, full, NO_SUCH_PLACE, s -> one.on(s, of));
            }
            for (int of : new int[] {3, 7, 8, 99, 102, 111, 112}) {
                unchanged("call " + call + " of none yet, " + of, some, NO_SUCH_PLACE, s -> one.on(s, of));
            }
            for (int of : new int[] {0, 2, 7, 100, 101, 111}) {
                Object answer = State.answerOf(s -> one.on(s, of), full.made());
                boolean views = call == 0;
                due("call " + call + " of " + of, views, answer == TOO_MANY);
                due("call " + call + " of " + of + " finds it", false, answer == NO_SUCH_PLACE || answer == WRONG);
            }
        }
        GridStore store = full.made();
        for (int g = 0; g < 8; g++) {
            due("grid " + g, 10 + g, store.get(g, 0, 0));
        }
        for (int v = 100; v < 112; v++) {
            due("view " + v, 10, store.get(v, 0, 0));
        }
    }

    private static void gridsAlone() {
        sentence("there is no such GRID: what asks for a GRID takes no VIEW");
        State full = withGridsAndViews(8, 12);
        State some = withGridsAndViews(3, 2);
        for (int call = 0; call < OF_GRID.length; call++) {
            OfOne one = OF_GRID[call];
            for (int grid : NUMBERS_OF_NOTHING) {
                unchanged("call " + call + " of grid " + grid, full, NO_SUCH_PLACE, s -> one.on(s, grid));
            }
            for (int grid : new int[] {100, 101, 111}) {
                unchanged("call " + call + " of view " + grid, full, NO_SUCH_PLACE, s -> one.on(s, grid));
            }
            for (int grid : new int[] {3, 7, 8, 99, 100, 101, 102}) {
                unchanged("call " + call + " of none yet, " + grid, some, NO_SUCH_PLACE, s -> one.on(s, grid));
            }
            for (int grid : new int[] {1, 2, 7}) {
                Object answer = State.answerOf(s -> one.on(s, grid), full.made());
                due("call " + call + " of grid " + grid + " answers", true, answer instanceof Integer);
            }
        }
    }
}
