/** Promises 1 to 25 by their headings: what each throws, refuses or answers at an edge, and that nothing changes. */
public final class RefusalsTest extends Checks {
    private static final int[] NO_GRIDS = {LEAST, -2, -1, 6, 7, 8, 99, 100, 103, 104, 111, 112, MOST};
    private static final int[] NO_GRIDS_OR_VIEWS = {LEAST, -2, -1, 6, 7, 8, 99, 104, 105, 111, 112, MOST};
    private static final int[][] NO_CELLS = {{-1, 0}, {0, -1}, {10, 0}, {0, 9}, {10, 9}, {LEAST, 0}, {0, LEAST},
        {MOST, 0}, {0, MOST}, {MOST, MOST}, {9, 9}, {10, 8}};

    public static void main(String[] args) {
        newObject();
        grid();
        view();
        close();
        size();
        set();
        dig();
        fill();
        hole();
        get();
        kind();
        keep();
        back();
        was();
        differ();
        lose();
        sum();
        many();
        find();
        slide();
        fold();
        join();
        coarse();
        read();
        count();
        finish("RefusalsTest");
    }

    /**
     * Grids 0, 1 (10 x 9), 2 (1 x 9), 3 (10 x 1), 4 (5 x 5), 5 (9 x 10); view 0 of all of grid 0, turned, view 1 of a
     * part of it, closed, view 2 of grid 1, view 3 of grid 4. Hosts 1 and 2 are lost: pieces (1, 0) and (0, 1).
     */
    private static State busy() {
        return new State(s -> s.grid(10, 9), s -> s.grid(10, 9), s -> s.grid(1, 9), s -> s.grid(10, 1),
            s -> s.grid(5, 5), s -> s.grid(9, 10), s -> s.fill(0, 0, 0, 10, 9, 2), s -> s.dig(0, 3, 3),
            s -> s.set(0, 0, 0, 5), s -> s.fill(1, 1, 0, 4, 4, 1), s -> s.set(4, 4, 4, -7), s -> s.fill(2, 0, 0, 1, 9, 6),
            s -> s.keep(0), s -> s.set(0, 1, 1, 8), s -> s.keep(0), s -> s.keep(1), s -> s.dig(1, 1, 0),
            s -> s.view(0, 0, 0, 10, 9, 1, false), s -> s.view(100, 1, 1, 5, 6, 0, true),
            s -> s.view(1, 0, 0, 10, 9, 0, false), s -> s.view(4, 0, 0, 5, 5, 3, false), s -> s.close(1, true),
            s -> s.lose(1, true), s -> s.lose(2, true), s -> s.set(0, 9, 8, -7));
    }

    private static void newObject() {
        sentence("GridStore(): No GRIDS; no HOST is LOST.");
        State made = new State();
        for (int what = 0; what <= 8; what++) {
            due("count(" + what + ")", 0, made.made().count(what));
        }
        for (int of : new int[] {-1, 0, 1, 7, 8, 99, 100, 111, 112}) {
            unchanged("size of " + of, made, NO_SUCH_PLACE, s -> s.size(of, false));
            unchanged("set in " + of, made, NO_SUCH_PLACE, s -> s.set(of, 0, 0, 1));
            unchanged("keep of " + of, made, NO_SUCH_PLACE, s -> s.keep(of));
        }
        for (int view : new int[] {-1, 0, 11, 12, 100}) {
            unchanged("close of view " + view, made, NO_SUCH_PLACE, s -> s.close(view, true));
        }
        for (int host = 0; host < 5; host++) {
            int asked = host;
            unchanged("host " + host + " there", made, false, s -> s.lose(asked, false));
            due("host " + host + " lost", true, made.made().lose(host, true));
        }
        GridStore first = busy().made();
        due("another object has no grids", 0, made.made().count(0));
        due("nor lost hosts", 0, made.made().count(3));
        due("and leaves those of the first", 6, first.count(0));
    }

    private static void grid() {
        sentence("A GRID of HOLES: its number. IllegalArgumentException: a size is none; "
            + "UnsupportedOperationException: there are 8.");
        State state = busy();
        due("the next one", 6, state.made().grid(48, 40));
        due("is of holes", state.made().count(4), state.then(s -> s.grid(48, 40)).made().count(4));
        int[][] none = {{0, 1}, {1, 0}, {49, 1}, {1, 41}, {-1, 1}, {1, -1}, {LEAST, LEAST}, {MOST, MOST}};
        State full = state.then(s -> s.grid(1, 1), s -> s.grid(1, 1));
        for (int[] size : none) {
            unchanged("size " + size[0] + " x " + size[1], state, WRONG, s -> s.grid(size[0], size[1]));
            unchanged("the ninth, of size " + size[0] + " x " + size[1], full, WRONG, s -> s.grid(size[0], size[1]));
        }
        unchanged("the ninth", full, TOO_MANY, s -> s.grid(48, 40));
        due("a refused one takes no number", 6, state.then(s -> s.grid(0, 1), s -> s.grid(49, 1)).made().grid(1, 1));
    }

    private static void view() {
        sentence("A VIEW: its number. IllegalArgumentException: the rectangle is none (wide and high 1 at least), "
            + "or quarters are; UnsupportedOperationException: there are 12.");
        State state = busy();
        due("the next one", 4, state.made().view(103, 4, 4, 1, 1, 3, true));
        for (int of : NO_GRIDS_OR_VIEWS) {
            unchanged("of " + of, state, NO_SUCH_PLACE, s -> s.view(of, 0, 0, 1, 1, 0, false));
            unchanged("of " + of + ", all wrong", state, NO_SUCH_PLACE, s -> s.view(of, -1, -1, 0, 0, 4, false));
        }
        int[][] none = {{0, 0, 11, 1, 0}, {0, 0, 1, 10, 0}, {0, 0, 0, 1, 0}, {0, 0, 1, 0, 0}, {0, 0, 1, 1, 4},
            {0, 0, 1, 1, -1}, {0, 0, 11, 10, 5}, {9, 8, 2, 2, 0}, {9, 8, 0, 0, 3}};
        State full = state;
        for (int v = 4; v < 12; v++) {
            full = full.then(s -> s.view(5, 0, 0, 9, 10, 0, false));
        }
        State twelve = full;
        for (int[] r : none) {
            unchanged("wrong", state, WRONG, s -> s.view(0, r[0], r[1], r[2], r[3], r[4], true));
            unchanged("the thirteenth, wrong", twelve, WRONG, s -> s.view(0, r[0], r[1], r[2], r[3], r[4], true));
        }
        unchanged("the thirteenth", twelve, TOO_MANY, s -> s.view(0, 0, 0, 10, 9, 3, true));
        unchanged("the thirteenth, of nothing", twelve, NO_SUCH_PLACE, s -> s.view(6, 0, 0, 1, 1, 0, false));
        due("a refused one takes no number", 4, state.then(s -> s.view(0, 0, 0, 1, 1, 4, false),
            s -> s.view(0, 0, 0, 0, 1, 0, false)).made().view(0, 0, 0, 1, 1, 0, false));
    }

    private static void close() {
        sentence("A VIEW is CLOSED, or not: whether it was otherwise.");
        State state = busy();
        unchanged("an open one opened", state, false, s -> s.close(0, false));
        unchanged("a closed one closed", state, false, s -> s.close(1, true));
        due("an open one closed", true, state.made().close(3, true));
        due("a closed one opened", true, state.made().close(1, false));
        unchanged("closed and opened", state, true, s -> s.close(2, true) && s.close(2, false));
        for (int view : new int[] {LEAST, -1, 4, 5, 11, 12, 99, 100, 101, 103, 104, MOST}) {
            unchanged("view " + view + " closed", state, NO_SUCH_PLACE, s -> s.close(view, true));
            unchanged("view " + view + " opened", state, NO_SUCH_PLACE, s -> s.close(view, false));
        }
    }

    private static void size() {
        sentence("How wide (high false) or high a GRID or VIEW is.");
        State state = busy();
        int[][] sizes = {{0, 10, 9}, {1, 10, 9}, {2, 1, 9}, {3, 10, 1}, {4, 5, 5}, {5, 9, 10}, {100, 9, 10},
            {101, 5, 6}, {102, 10, 9}, {103, 5, 5}};
        for (int[] one : sizes) {
            unchanged("wide of " + one[0], state, one[1], s -> s.size(one[0], false));
            unchanged("high of " + one[0], state, one[2], s -> s.size(one[0], true));
        }
        for (int of : NO_GRIDS_OR_VIEWS) {
            unchanged("wide of " + of, state, NO_SUCH_PLACE, s -> s.size(of, false));
            unchanged("high of " + of, state, NO_SUCH_PLACE, s -> s.size(of, true));
        }
    }

    private static void set() {
        sentence("A number is written to a CELL: true; false, and nothing happens, if the VIEW is CLOSED, "
            + "or it is refused.");
        State state = busy();
        due("written", true, state.made().set(0, 7, 7, 1));
        unchanged("the number that it has", state, true, s -> s.set(0, 0, 0, 5));
        unchanged("another one, and the old one", state, true, s -> s.set(0, 0, 0, 6) && s.set(0, 0, 0, 5));
        unchanged("through a closed view", state, false, s -> s.set(101, 0, 0, 1));
        unchanged("in a lost piece", state, false, s -> s.set(0, 8, 7, 1));
        unchanged("in a lost piece of holes ever since", state, false, s -> s.set(5, 8, 7, 1));
        unchanged("in a lost piece, through a view", state, false, s -> s.set(102, 7, 8, 1));
        unchanged("in the last cell of one", state, false, s -> s.set(0, 7, 8, 1));
        due("beside it", true, state.made().set(102, 8, 8, 1));
        for (int[] cell : NO_CELLS) {
            unchanged("no cell (" + cell[0] + ", " + cell[1] + ")", state, NO_SUCH_PLACE,
                s -> s.set(0, cell[0], cell[1], 1));
        }
        for (int[] cell : new int[][] {{5, 0}, {0, 6}, {-1, 0}, {0, -1}}) {
            unchanged("no cell of a closed view", state, NO_SUCH_PLACE, s -> s.set(101, cell[0], cell[1], 1));
        }
        for (int of : NO_GRIDS_OR_VIEWS) {
            unchanged("in " + of, state, NO_SUCH_PLACE, s -> s.set(of, 0, 0, 1));
        }
    }

    private static void dig() {
        sentence("A CELL becomes a HOLE: true; false likewise, or if it was one.");
        State state = busy();
        due("a number", true, state.made().dig(0, 0, 0));
        due("a number, then a hole", false, state.then(s -> s.dig(0, 0, 0)).made().dig(0, 0, 0));
        unchanged("a hole", state, false, s -> s.dig(0, 3, 3));
        unchanged("a hole, through a view", state, false, s -> s.dig(102, 0, 8));
        unchanged("a number, through a closed view", state, false, s -> s.dig(101, 0, 0));
        unchanged("in a lost piece", state, false, s -> s.dig(0, 8, 0));
        unchanged("a number written and dug", state, true, s -> s.set(0, 3, 3, 1) && s.dig(0, 3, 3));
        for (int[] cell : NO_CELLS) {
            unchanged("no cell (" + cell[0] + ", " + cell[1] + ")", state, NO_SUCH_PLACE,
                s -> s.dig(0, cell[0], cell[1]));
        }
        for (int of : NO_GRIDS_OR_VIEWS) {
            unchanged("in " + of, state, NO_SUCH_PLACE, s -> s.dig(of, 0, 0));
        }
    }

    private static void fill() {
        sentence("All CELLS of a rectangle are written (those that can be): how many were changed (0 through a CLOSED "
            + "VIEW). IllegalArgumentException: the rectangle is none.");
        State state = busy();
        due("all that can be", 66, state.made().fill(0, 0, 0, 10, 9, 44));
        due("but those that have it", 66 - 62, state.made().fill(0, 0, 0, 10, 9, 2));
        unchanged("with what they have", state, 0, s -> s.fill(0, 4, 4, 3, 3, 2));
        unchanged("of lost cells alone", state, 0, s -> s.fill(0, 8, 0, 2, 8, 44));
        unchanged("through a closed view", state, 0, s -> s.fill(101, 0, 0, 5, 6, 44));
        int[][] none = {{0, 0, 11, 1}, {0, 0, 1, 10}, {0, 0, 0, 1}, {0, 0, 1, 0}, {9, 0, 2, 1}, {0, 8, 1, 2},
            {0, 0, -1, -1}, {1, 1, MOST, MOST}};
        for (int[] r : none) {
            unchanged("no rectangle", state, WRONG, s -> s.fill(0, r[0], r[1], r[2], r[3], 44));
            unchanged("no rectangle of a closed view", state, WRONG, s -> s.fill(101, r[0], r[1], r[2], r[3], 44));
        }
        for (int of : NO_GRIDS_OR_VIEWS) {
            unchanged("in " + of, state, NO_SUCH_PLACE, s -> s.fill(of, 0, 0, 1, 1, 44));
            unchanged("no rectangle in " + of, state, NO_SUCH_PLACE, s -> s.fill(of, 0, 0, 0, 0, 44));
        }
    }

    private static void hole() {
        sentence("Whether a CELL is a HOLE.");
        State state = busy();
        unchanged("a number", state, false, s -> s.hole(0, 0, 0));
        unchanged("a dug cell", state, true, s -> s.hole(0, 3, 3));
        unchanged("a lost cell", state, true, s -> s.hole(0, 9, 7));
        unchanged("a number in a closed view", state, false, s -> s.hole(101, 4, 5));
        for (int[] cell : NO_CELLS) {
            unchanged("no cell (" + cell[0] + ", " + cell[1] + ")", state, NO_SUCH_PLACE,
                s -> s.hole(0, cell[0], cell[1]));
        }
        for (int of : NO_GRIDS_OR_VIEWS) {
            unchanged("in " + of, state, NO_SUCH_PLACE, s -> s.hole(of, 0, 0));
        }
    }

    private static void get() {
        sentence("The number of a CELL. NoSuchElementException: it is a HOLE.");
        State state = busy();
        unchanged("a number", state, 5, s -> s.get(0, 0, 0));
        unchanged("the last one", state, -7, s -> s.get(0, 9, 8));
        unchanged("a dug cell", state, NO_NUMBER, s -> s.get(0, 3, 3));
        unchanged("a lost cell", state, NO_NUMBER, s -> s.get(0, 8, 0));
        unchanged("a hole in a view", state, NO_NUMBER, s -> s.get(102, 0, 0));
        for (int[] cell : NO_CELLS) {
            unchanged("no cell (" + cell[0] + ", " + cell[1] + ")", state, NO_SUCH_PLACE,
                s -> s.get(0, cell[0], cell[1]));
        }
        for (int of : NO_GRIDS_OR_VIEWS) {
            unchanged("in " + of, state, NO_SUCH_PLACE, s -> s.get(of, 0, 0));
        }
    }

    private static void kind() {
        sentence("KIND of a PIECE of a GRID.");
        State state = busy();
        int[][] kinds = {{0, 0, 0, 3}, {0, 1, 0, 0}, {0, 0, 1, 0}, {0, 1, 1, 2}, {1, 0, 0, 3}, {2, 0, 0, 1},
            {4, 0, 0, 2}, {5, 1, 1, 0}};
        for (int[] one : kinds) {
            unchanged("piece (" + one[1] + ", " + one[2] + ") of grid " + one[0], state, one[3],
                s -> s.kind(one[0], one[1], one[2]));
        }
        for (int[] piece : new int[][] {{2, 0}, {0, 2}, {2, 2}, {-1, 0}, {0, -1}, {LEAST, 0}, {0, MOST}, {8, 0}}) {
            unchanged("no piece (" + piece[0] + ", " + piece[1] + ")", state, NO_SUCH_PLACE,
                s -> s.kind(0, piece[0], piece[1]));
        }
        unchanged("a piece of a wider grid", state, NO_SUCH_PLACE, s -> s.kind(2, 1, 0));
        unchanged("a piece of a higher grid", state, NO_SUCH_PLACE, s -> s.kind(3, 0, 1));
        for (int grid : NO_GRIDS) {
            unchanged("of grid " + grid, state, NO_SUCH_PLACE, s -> s.kind(grid, 0, 0));
        }
    }

    private static void keep() {
        sentence("A GRID's LAYER is KEPT: its number; NONE, and it is not, if there are 20.");
        State state = busy();
        due("the next one", 2, state.made().keep(0));
        due("of another grid", 1, state.made().keep(1));
        due("the first of one", 0, state.made().keep(2));
        State nineteen = new State(s -> s.grid(2, 1));
        for (int layer = 0; layer < 19; layer++) {
            int next = layer;
            nineteen = nineteen.then(s -> s.set(0, 0, 0, next), s -> s.keep(0));
        }
        due("the twentieth", 19, nineteen.made().keep(0));
        State twenty = nineteen.then(s -> s.set(0, 1, 0, 9), s -> s.keep(0), s -> s.set(0, 0, 0, 99));
        unchanged("the twenty-first", twenty, -1, s -> s.keep(0));
        due("what the twentieth kept", 18, twenty.then(s -> s.keep(0)).made().was(0, 19, 0, 0));
        for (int grid : NO_GRIDS) {
            unchanged("of grid " + grid, state, NO_SUCH_PLACE, s -> s.keep(grid));
        }
    }

    private static void back() {
        sentence("BACK: how many CELLS were changed.");
        State state = busy();
        due("to the first layer", 2, state.made().back(0, 0));
        due("to the second one", 1, state.made().back(0, 1));
        due("in another grid", 1, state.made().back(1, 0));
        unchanged("to what there is", state.then(s -> s.back(0, 0)), 0, s -> s.back(0, 0));
        for (int layer : new int[] {LEAST, -2, -1, 2, 3, 19, 20, MOST}) {
            unchanged("to layer " + layer, state, NO_SUCH_PLACE, s -> s.back(0, layer));
        }
        unchanged("to a layer of another grid", state, NO_SUCH_PLACE, s -> s.back(1, 1));
        unchanged("where there are no layers", state, NO_SUCH_PLACE, s -> s.back(2, 0));
        for (int grid : NO_GRIDS) {
            unchanged("of grid " + grid, state, NO_SUCH_PLACE, s -> s.back(grid, 0));
        }
    }

    private static void was() {
        sentence("The number of a CELL in a LAYER. NoSuchElementException: it is a HOLE there.");
        State state = busy();
        unchanged("in the first layer", state, 2, s -> s.was(0, 0, 1, 1));
        unchanged("in the second one", state, 8, s -> s.was(0, 1, 1, 1));
        unchanged("what is lost now", state, 2, s -> s.was(0, 0, 8, 0));
        unchanged("what is dug now", state, 1, s -> s.was(1, 0, 1, 0));
        unchanged("a hole", state, NO_NUMBER, s -> s.was(0, 0, 3, 3));
        unchanged("a hole of another grid", state, NO_NUMBER, s -> s.was(1, 0, 0, 0));
        for (int layer : new int[] {LEAST, -2, -1, 2, 3, 19, 20, MOST}) {
            unchanged("in layer " + layer, state, NO_SUCH_PLACE, s -> s.was(0, layer, 0, 0));
        }
        for (int[] cell : NO_CELLS) {
            unchanged("no cell (" + cell[0] + ", " + cell[1] + ")", state, NO_SUCH_PLACE,
                s -> s.was(0, 1, cell[0], cell[1]));
        }
        for (int grid : NO_GRIDS) {
            unchanged("of grid " + grid, state, NO_SUCH_PLACE, s -> s.was(grid, 0, 0, 0));
        }
    }

    private static void differ() {
        sentence("In how many PIECES two LAYERS of a GRID (NONE: what it has now) have unlike CELLS.");
        State state = busy();
        int[][] told = {{0, 1, 1}, {1, 0, 1}, {0, 0, 0}, {1, 1, 0}, {-1, -1, 0}, {0, -1, 4}, {-1, 0, 4}, {1, -1, 3}};
        for (int[] one : told) {
            unchanged("layers " + one[0] + " and " + one[1], state, one[2], s -> s.differ(0, one[0], one[1]));
        }
        unchanged("without layers", state, 0, s -> s.differ(5, -1, -1));
        for (int layer : new int[] {LEAST, -2, 2, 3, 19, 20, MOST}) {
            unchanged("layer " + layer + " and one", state, NO_SUCH_PLACE, s -> s.differ(0, layer, 0));
            unchanged("one and layer " + layer, state, NO_SUCH_PLACE, s -> s.differ(0, 0, layer));
            unchanged("now and layer " + layer, state, NO_SUCH_PLACE, s -> s.differ(0, -1, layer));
            unchanged("layer " + layer + " and itself", state, NO_SUCH_PLACE, s -> s.differ(0, layer, layer));
        }
        unchanged("a layer of another grid", state, NO_SUCH_PLACE, s -> s.differ(1, 0, 1));
        for (int grid : NO_GRIDS) {
            unchanged("of grid " + grid, state, NO_SUCH_PLACE, s -> s.differ(grid, -1, -1));
        }
        sentence("unlike CELLS: a number and a HOLE, or two numbers");
        GridStore store = holding("0 . 1");
        store.keep(0);
        for (int x = 0; x < 3; x++) {
            store.back(0, 0);
            due("alike", 0, store.differ(0, 0, -1));
            store.set(0, x, 0, 5);
            due("another number, or one for a hole", 1, store.differ(0, 0, -1));
            store.dig(0, x, 0);
            due("a hole, for a number", x == 1 ? 0 : 1, store.differ(0, 0, -1));
        }
        store.back(0, 0);
        store.set(0, 1, 0, 0);
        due("a 0 for a hole", 1, store.differ(0, 0, -1));
    }

    private static void lose() {
        sentence("A HOST is LOST, or there again: whether it was otherwise.");
        State state = busy();
        unchanged("a lost one lost", state, false, s -> s.lose(1, true));
        unchanged("one that is there, there again", state, false, s -> s.lose(0, false));
        due("one that is there lost", true, state.made().lose(0, true));
        due("a lost one there again", true, state.made().lose(2, false));
        unchanged("there again and lost", state, true, s -> s.lose(2, false) && s.lose(2, true));
        unchanged("lost alone, and there again", state, true, s -> s.lose(4, true) && s.lose(4, false));
        for (int host : new int[] {LEAST, -1, 5, 6, 100, MOST}) {
            unchanged("host " + host + " lost", state, NO_SUCH_PLACE, s -> s.lose(host, true));
            unchanged("host " + host + " there again", state, NO_SUCH_PLACE, s -> s.lose(host, false));
        }
    }

    private static void sum() {
        sentence("SUM. IllegalArgumentException: r is none.");
        State state = busy();
        unchanged("by 0", state, 5L, s -> s.sum(0, 0, 0, 0));
        unchanged("by 1", state, 5L + 2 + 2 + 8, s -> s.sum(0, 0, 0, 1));
        unchanged("around a hole", state, 16L, s -> s.sum(0, 3, 3, 1));
        unchanged("around lost cells", state, 0L, s -> s.sum(0, 9, 0, 0));
        unchanged("of what there is near lost cells", state, 2L + 2 + 2 - 7, s -> s.sum(0, 8, 7, 1));
        unchanged("in a closed view", state, 2L, s -> s.sum(101, 0, 0, 0));
        for (int r : new int[] {LEAST, -1, 10, MOST}) {
            unchanged("by " + r, state, WRONG, s -> s.sum(0, 0, 0, r));
            unchanged("around no cell by " + r, state, NO_SUCH_PLACE, s -> s.sum(0, 10, 0, r));
        }
        for (int[] cell : NO_CELLS) {
            unchanged("around no cell", state, NO_SUCH_PLACE, s -> s.sum(0, cell[0], cell[1], 1));
        }
        for (int of : NO_GRIDS_OR_VIEWS) {
            unchanged("in " + of, state, NO_SUCH_PLACE, s -> s.sum(of, 0, 0, 0));
        }
    }

    private static void many() {
        sentence("HOW MANY. IllegalArgumentException likewise.");
        State state = busy();
        unchanged("by 0", state, 1, s -> s.many(0, 0, 0, 0));
        unchanged("by 1", state, 4, s -> s.many(0, 0, 0, 1));
        unchanged("around a hole", state, 8, s -> s.many(0, 3, 3, 1));
        unchanged("around lost cells", state, 0, s -> s.many(0, 9, 0, 0));
        unchanged("of what there is near lost cells", state, 4, s -> s.many(0, 8, 7, 1));
        for (int r : new int[] {LEAST, -1, 10, MOST}) {
            unchanged("by " + r, state, WRONG, s -> s.many(0, 0, 0, r));
            unchanged("around no cell by " + r, state, NO_SUCH_PLACE, s -> s.many(0, 0, 9, r));
        }
        for (int[] cell : NO_CELLS) {
            unchanged("around no cell", state, NO_SUCH_PLACE, s -> s.many(0, cell[0], cell[1], 1));
        }
        for (int of : NO_GRIDS_OR_VIEWS) {
            unchanged("in " + of, state, NO_SUCH_PLACE, s -> s.many(of, 0, 0, 0));
        }
    }

    private static void find() {
        sentence("FIND: x and y times 100 of the CELL; NONE without one.");
        State state = busy();
        unchanged("the first cell", state, 0, s -> s.find(0, 5));
        unchanged("one in the next row", state, 101, s -> s.find(0, 8));
        unchanged("none", state, -1, s -> s.find(0, 9));
        unchanged("none of the greatest", state, -1, s -> s.find(0, MOST));
        unchanged("none in holes", state, -1, s -> s.find(5, LEAST));
        unchanged("one alone", state, 404, s -> s.find(4, -7));
        unchanged("none as great", state, -1, s -> s.find(4, -6));
        for (int of : NO_GRIDS_OR_VIEWS) {
            unchanged("in " + of, state, NO_SUCH_PLACE, s -> s.find(of, 0));
        }
    }

    private static void slide() {
        sentence("SLIDE into a GRID. IllegalArgumentException: r is none, sizes do not agree, or it is of that GRID.");
        State state = busy();
        due("into the other grid", true, state.made().slide(0, 4, 1) > 0);
        due("of a view", true, state.made().slide(102, 0, 0) > 0);
        due("of a turned view", true, state.made().slide(100, 0, 5) > 0);
        for (int r : new int[] {LEAST, -1, 5, MOST}) {
            unchanged("by " + r, state, WRONG, s -> s.slide(0, r, 1));
            unchanged("by " + r + " into nothing", state, NO_SUCH_PLACE, s -> s.slide(0, r, 6));
            unchanged("by " + r + " of nothing", state, NO_SUCH_PLACE, s -> s.slide(6, r, 1));
        }
        int[][] wrong = {{0, 5}, {5, 0}, {0, 2}, {0, 3}, {0, 4}, {100, 1}, {101, 4}, {0, 0}, {100, 0}, {102, 1}, {103, 4},
            {1, 1}, {4, 4}};
        for (int[] one : wrong) {
            unchanged("of " + one[0] + " into " + one[1], state, WRONG, s -> s.slide(one[0], 1, one[1]));
        }
        for (int of : NO_GRIDS_OR_VIEWS) {
            unchanged("of " + of, state, NO_SUCH_PLACE, s -> s.slide(of, 1, 1));
        }
        for (int grid : NO_GRIDS) {
            unchanged("into " + grid, state, NO_SUCH_PLACE, s -> s.slide(0, 1, grid));
        }
    }

    private static void fold() {
        sentence("FOLD along y, or x, into a GRID. IllegalArgumentException: sizes do not agree, or it is of that GRID.");
        State state = busy();
        due("along x", 8, state.made().fold(0, false, 2));
        due("along y", 8, state.made().fold(0, true, 3));
        due("of a turned view along y", WRONG, State.answerOf(s -> s.fold(100, true, 3), state.made()));
        int[][] wrong = {{0, 1}, {0, 4}, {0, 5}, {4, 2}, {4, 3}, {100, 2}, {100, 3}, {101, 2}, {101, 3}};
        for (int[] one : wrong) {
            unchanged("of " + one[0] + " into " + one[1], state, WRONG, s -> s.fold(one[0], true, one[1]));
            unchanged("of " + one[0] + " along x into " + one[1], state, WRONG, s -> s.fold(one[0], false, one[1]));
        }
        unchanged("along y into a column", state, WRONG, s -> s.fold(0, true, 2));
        unchanged("along x into a row", state, WRONG, s -> s.fold(0, false, 3));
        unchanged("of a column into itself", state, WRONG, s -> s.fold(2, false, 2));
        unchanged("of a row into itself", state, WRONG, s -> s.fold(3, true, 3));
        for (int of : NO_GRIDS_OR_VIEWS) {
            unchanged("of " + of, state, NO_SUCH_PLACE, s -> s.fold(of, true, 3));
        }
        for (int grid : NO_GRIDS) {
            unchanged("into " + grid, state, NO_SUCH_PLACE, s -> s.fold(0, false, grid));
        }
    }

    private static void join() {
        sentence("JOIN into a GRID. IllegalArgumentException: how is not 0 to 3, sizes do not agree, "
            + "or one is of that GRID.");
        State state = busy().then(s -> s.grid(10, 9), s -> s.view(6, 0, 0, 10, 9, 2, true));
        for (int how = 0; how < 4; how++) {
            int asked = how;
            due("join " + how, true, state.made().join(0, 1, how, 6) > 0);
            unchanged("join " + how + " once more", state.then(s -> s.join(0, 1, asked, 6)), 0,
                s -> s.join(0, 1, asked, 6));
        }
        for (int how : new int[] {LEAST, -1, 4, MOST}) {
            unchanged("join " + how, state, WRONG, s -> s.join(0, 1, how, 6));
            unchanged("join " + how + " of nothing", state, NO_SUCH_PLACE, s -> s.join(7, 1, how, 6));
            unchanged("join " + how + " with nothing", state, NO_SUCH_PLACE, s -> s.join(0, 105, how, 6));
            unchanged("join " + how + " into nothing", state, NO_SUCH_PLACE, s -> s.join(0, 1, how, 7));
        }
        int[][] wrong = {{0, 5, 6}, {5, 0, 6}, {5, 5, 6}, {0, 100, 6}, {100, 0, 6}, {0, 1, 5}, {0, 1, 4}, {0, 4, 6},
            {0, 1, 0}, {0, 1, 1}, {6, 1, 6}, {0, 6, 6}, {104, 1, 6}, {0, 104, 6}, {102, 0, 1}, {0, 102, 1}};
        for (int[] one : wrong) {
            unchanged("of " + one[0] + " and " + one[1] + " into " + one[2], state, WRONG,
                s -> s.join(one[0], one[1], 0, one[2]));
        }
        for (int of : new int[] {LEAST, -1, 7, 8, 99, 105, 111, 112, MOST}) {
            unchanged("of " + of, state, NO_SUCH_PLACE, s -> s.join(of, 1, 0, 6));
            unchanged("with " + of, state, NO_SUCH_PLACE, s -> s.join(0, of, 0, 6));
            unchanged("into " + of, state, NO_SUCH_PLACE, s -> s.join(0, 1, 0, of));
        }
        unchanged("into a view", state, NO_SUCH_PLACE, s -> s.join(0, 1, 0, 104));
    }

    private static void coarse() {
        sentence("COARSE into a GRID. IllegalArgumentException: k is none, sizes do not agree, or it is of that GRID.");
        State state = busy().then(s -> s.grid(2, 2));
        due("by 2", true, state.made().coarse(0, 2, 4) > 0);
        due("by 5", true, state.made().coarse(0, 5, 6) > 0);
        due("by 8", true, state.made().coarse(0, 8, 6) > 0);
        for (int k : new int[] {LEAST, -1, 0, 1, 9, 10, MOST}) {
            for (int into : new int[] {1, 4, 6}) {
                unchanged("by " + k + " into " + into, state, WRONG, s -> s.coarse(0, k, into));
            }
            unchanged("by " + k + " of nothing", state, NO_SUCH_PLACE, s -> s.coarse(7, k, 4));
            unchanged("by " + k + " into nothing", state, NO_SUCH_PLACE, s -> s.coarse(0, k, 100));
        }
        for (int k = 3; k <= 8; k++) {
            int asked = k;
            unchanged("by " + k + " into 5 x 5", state, WRONG, s -> s.coarse(0, asked, 4));
        }
        unchanged("by 4 into 2 x 2", state, WRONG, s -> s.coarse(0, 4, 6));
        unchanged("of itself", state, WRONG, s -> s.coarse(4, 2, 4));
        unchanged("of a view of it", state, WRONG, s -> s.coarse(103, 2, 4));
        for (int of : new int[] {LEAST, -1, 7, 8, 99, 104, 111, 112, MOST}) {
            unchanged("of " + of, state, NO_SUCH_PLACE, s -> s.coarse(of, 2, 4));
            unchanged("into " + of, state, NO_SUCH_PLACE, s -> s.coarse(0, 2, of));
        }
    }

    private static void read() {
        sentence("READ. IllegalArgumentException: the rectangle is none.");
        State state = busy();
        unchanged("of all", state, 4, s -> s.read(0, 0, 0, 10, 9));
        unchanged("of a cell", state, 1, s -> s.read(0, 9, 8, 1, 1));
        unchanged("of a closed view", state, 1, s -> s.read(101, 0, 0, 5, 6));
        unchanged("of a turned view", state, 4, s -> s.read(100, 0, 0, 9, 10));
        unchanged("of a turned view's row", state, 2, s -> s.read(100, 0, 0, 9, 1));
        int[][] none = {{0, 0, 11, 1}, {0, 0, 1, 10}, {0, 0, 0, 1}, {0, 0, 1, 0}, {9, 0, 2, 1}, {0, 8, 1, 2},
            {0, 0, -1, -1}, {1, 1, MOST, MOST}};
        for (int[] r : none) {
            unchanged("no rectangle", state, WRONG, s -> s.read(0, r[0], r[1], r[2], r[3]));
        }
        for (int of : NO_GRIDS_OR_VIEWS) {
            unchanged("in " + of, state, NO_SUCH_PLACE, s -> s.read(of, 0, 0, 1, 1));
            unchanged("no rectangle in " + of, state, NO_SUCH_PLACE, s -> s.read(of, 0, 0, 0, 0));
        }
    }

    private static void count() {
        sentence("0 GRIDS, 1 VIEWS, 2 LAYERS of all, 3 HOSTS that are LOST, 4 CELLS with numbers of all GRIDS, "
            + "5 to 8 PIECES of KIND 0 to 3 of all GRIDS. NONE for another what.");
        State state = busy();
        int[] told = {6, 4, 3, 2, 65 + 15 + 8 + 1, 2 + 3 + 1 + 2 + 4, 1, 2, 2};
        for (int what = 0; what < told.length; what++) {
            int asked = what;
            unchanged("count of " + what, state, told[what], s -> s.count(asked));
        }
        for (int what : new int[] {LEAST, -2, -1, 9, 10, 100, MOST}) {
            unchanged("count of " + what, state, -1, s -> s.count(what));
        }
    }
}
