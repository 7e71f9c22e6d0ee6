/** Each promise of the document: ordinary inputs, the edges that it names, and wrong inputs. */
public final class PromisesTest extends Checks {
    private static final int[] NUMBERS_OF_NOTHING = {Integer.MIN_VALUE, -1, 8, 99, 112, Integer.MAX_VALUE};

    public static void main(String[] args) {
        newObject();
        grid();
        viewAnswersAndRefusals();
        viewTurnsAndFlips();
        viewOfView();
        close();
        size();
        set();
        dig();
        fill();
        holeAndGet();
        kind();
        keep();
        back();
        was();
        differ();
        lose();
        loseNeighbours();
        sumAndMany();
        find();
        slide();
        fold();
        joinHows();
        joinRefusals();
        coarse();
        read();
        count();
        lostTargets();
        finish("PromisesTest");
    }

    private static void newObject() {
        GridStore store = new GridStore();
        due("NONE", -1, GridStore.NONE);
        for (int what = 0; what <= 8; what++) {
            due("count of a new object", 0, store.count(what));
        }
        for (int of : new int[] {0, 7, 100, 111}) {
            refused("size in a new object", NO_SUCH_PLACE, () -> store.size(of, false));
        }
        for (int host = 0; host < 5; host++) {
            due("no host is lost at first", false, store.lose(host, false));
        }
        GridStore other = new GridStore();
        store.grid(1, 1);
        store.lose(0, true);
        due("objects share no grids", 0, other.count(0));
        due("objects share no hosts", 0, other.count(3));
    }

    private static void grid() {
        GridStore store = new GridStore();
        int[][] none = {{0, 1}, {1, 0}, {49, 1}, {1, 41}, {-1, 5}, {5, -1}, {41, 48},
            {Integer.MIN_VALUE, 1}, {1, Integer.MAX_VALUE}};
        for (int[] size : none) {
            refused("grid of no size", WRONG, () -> store.grid(size[0], size[1]));
        }
        due("refused grids are none", 0, store.count(0));
        due("first grid", 0, store.grid(48, 40));
        due("second grid", 1, store.grid(1, 1));
        due("a grid is of holes", 0, store.count(4));
        due("its last cell is a hole", true, store.hole(0, 47, 39));
        for (int g = 2; g < 8; g++) {
            due("grid number", g, store.grid(g, 40));
        }
        refused("a ninth grid", TOO_MANY, () -> store.grid(1, 1));
        refused("a ninth grid of no size", WRONG, () -> store.grid(0, 1));
        due("grids", 8, store.count(0));
    }

    private static void viewAnswersAndRefusals() {
        GridStore store = holding("1 2 3 4 / 5 6 7 8 / 9 10 11 12");
        int[][] none = {{0, 0, 5, 1}, {0, 0, 1, 4}, {1, 0, 4, 1}, {0, 1, 1, 3}, {-1, 0, 1, 1}, {0, -1, 1, 1},
            {4, 0, 1, 1}, {0, 3, 1, 1}, {0, 0, 0, 1}, {0, 0, 1, 0}, {0, 0, -1, 1}, {0, 0, 1, -1},
            {1, 0, Integer.MAX_VALUE, 1}, {0, 1, 1, Integer.MAX_VALUE}, {Integer.MAX_VALUE, 0, 2, 1},
            {0, Integer.MAX_VALUE, 1, 2}, {Integer.MIN_VALUE, 0, 1, 1}, {0, 0, 1, Integer.MIN_VALUE}};
        for (int[] r : none) {
            refused("view of no rectangle", WRONG, () -> store.view(0, r[0], r[1], r[2], r[3], 0, false));
        }
        for (int quarters : new int[] {-1, 4, Integer.MIN_VALUE, Integer.MAX_VALUE}) {
            refused("view of no quarters", WRONG, () -> store.view(0, 0, 0, 1, 1, quarters, false));
        }
        for (int of : NUMBERS_OF_NOTHING) {
            refused("view of nothing", NO_SUCH_PLACE, () -> store.view(of, 0, 0, 9, 9, 9, false));
        }
        refused("view of a view to come", NO_SUCH_PLACE, () -> store.view(100, 0, 0, 1, 1, 0, false));
        due("refused views are none", 0, store.count(1));
        for (int v = 0; v < 12; v++) {
            due("view number", v, store.view(v == 0 ? 0 : 99 + v, 0, 0, 4, 3, 0, false));
        }
        refused("a thirteenth view", TOO_MANY, () -> store.view(0, 0, 0, 1, 1, 0, false));
        refused("a thirteenth view, no quarters", WRONG, () -> store.view(0, 0, 0, 1, 1, 4, false));
        refused("a thirteenth view, of nothing", NO_SUCH_PLACE, () -> store.view(1, 0, 0, 0, 1, 4, false));
        due("views", 12, store.count(1));
        due("a view of views of views", 12, store.get(111, 3, 2));
    }

    private static void viewTurnsAndFlips() {
        String[] told = {"1 2 3 / 4 5 6", "4 1 / 5 2 / 6 3", "6 5 4 / 3 2 1", "3 6 / 2 5 / 1 4",
            "3 2 1 / 6 5 4", "1 4 / 2 5 / 3 6", "4 5 6 / 1 2 3", "6 3 / 5 2 / 4 1"};
        GridStore store = holding("0 0 0 0 0 / 0 1 2 3 0 / 0 4 5 6 0");
        for (int k = 0; k < 8; k++) {
            store.view(0, 1, 1, 3, 2, k % 4, k >= 4);
            due("view turned by " + k % 4 + ", flipped: " + (k >= 4), told[k], cells(store, 100 + k));
        }
        due("written through a turned view", true, store.set(103, 1, 2, 44));
        due("in the grid", 44, store.get(0, 1, 2));
        due("in another view", 44, store.get(107, 0, 2));
        due("written to the grid", true, store.dig(0, 3, 1));
        due("in the views", true, store.hole(101, 1, 2));
    }

    private static void viewOfView() {
        GridStore store = holding("1 2 3 4 / 5 6 7 8 / 9 10 11 12");
        store.view(0, 0, 0, 4, 3, 1, false);
        due("turned", "9 5 1 / 10 6 2 / 11 7 3 / 12 8 4", cells(store, 100));
        store.view(100, 1, 1, 2, 3, 3, true);
        due("cut, turned and flipped again", "4 3 2 / 8 7 6", cells(store, 101));
        store.view(101, 1, 0, 2, 2, 2, true);
        due("and again", "7 6 / 3 2", cells(store, 102));
        refused("within the view, not its grid", WRONG, () -> store.view(102, 0, 0, 3, 1, 0, false));
        due("written through three", 4, store.fill(102, 0, 0, 2, 2, 0));
        due("in the grid", "1 0 0 4 / 5 0 0 8 / 9 10 11 12", cells(store, 0));
        store.grid(2, 1);
        store.view(1, 0, 0, 2, 1, 0, false);
        due("another grid's view", true, store.set(103, 1, 0, 77));
        store.view(100, 0, 3, 3, 1, 0, false);
        due("a low corner of a view", "12 8 4", cells(store, 104));
        store.view(0, 3, 0, 1, 3, 0, false);
        due("a far corner of a grid", "4 / 8 / 12", cells(store, 105));
        due("in that grid", ". 77", cells(store, 1));
    }

    private static void close() {
        GridStore store = holding("1 2");
        store.view(0, 0, 0, 2, 1, 0, false);
        store.view(100, 0, 0, 2, 1, 0, false);
        due("not closed at first", false, store.close(0, false));
        due("closed", true, store.close(0, true));
        due("closed again", false, store.close(0, true));
        due("set through it", false, store.set(100, 0, 0, 9));
        due("dig through it", false, store.dig(100, 0, 0));
        due("fill through it", 0, store.fill(100, 0, 0, 2, 1, 9));
        refused("no rectangle through it", WRONG, () -> store.fill(100, 0, 0, 3, 1, 9));
        refused("no cell through it", NO_SUCH_PLACE, () -> store.set(100, 2, 0, 9));
        due("still told by it", "1 2", cells(store, 100));
        due("a view of it is written through", true, store.set(101, 0, 0, 5));
        due("and so is its grid", true, store.dig(0, 1, 0));
        due("as they are", "5 .", cells(store, 100));
        due("the other one is closed", true, store.close(1, true));
        due("opened", true, store.close(0, false));
        due("opened again", false, store.close(0, false));
        due("written again", true, store.set(100, 0, 0, 6));
        due("not through the closed one", false, store.set(101, 0, 0, 7));
        store.grid(2, 1);
        due("acts take what a closed view tells", 1, store.slide(101, 0, 1));
        for (int view : new int[] {-1, 2, 11, 12, 100, Integer.MIN_VALUE, Integer.MAX_VALUE}) {
            refused("close of no view", NO_SUCH_PLACE, () -> store.close(view, true));
        }
    }

    private static void size() {
        GridStore store = holding("1 2 3 / 4 5 6");
        due("wide", 3, store.size(0, false));
        due("high", 2, store.size(0, true));
        store.view(0, 0, 0, 3, 2, 1, false);
        store.view(0, 1, 0, 2, 1, 2, true);
        due("a turned view is as wide as its rectangle is high", 2, store.size(100, false));
        due("and as high as it is wide", 3, store.size(100, true));
        due("wide of a cut", 2, store.size(101, false));
        due("high of a cut", 1, store.size(101, true));
        for (int of : NUMBERS_OF_NOTHING) {
            refused("size of nothing", NO_SUCH_PLACE, () -> store.size(of, true));
        }
        refused("size of no view", NO_SUCH_PLACE, () -> store.size(102, true));
    }

    private static void set() {
        GridStore store = new GridStore();
        store.grid(48, 40);
        store.view(0, 40, 30, 8, 10, 0, false);
        due("set", true, store.set(0, 47, 39, Integer.MIN_VALUE));
        due("of 32 bits", Integer.MIN_VALUE, store.get(0, 47, 39));
        due("the same again", true, store.set(0, 47, 39, Integer.MIN_VALUE));
        due("another one", true, store.set(0, 47, 39, Integer.MAX_VALUE));
        due("is there", Integer.MAX_VALUE, store.get(100, 7, 9));
        due("one cell", 1, store.count(4));
        int[][] none = {{-1, 0}, {0, -1}, {48, 0}, {0, 40}, {Integer.MIN_VALUE, 0}, {0, Integer.MAX_VALUE}};
        for (int[] cell : none) {
            refused("set of no cell", NO_SUCH_PLACE, () -> store.set(0, cell[0], cell[1], 1));
        }
        refused("set of no cell of a view", NO_SUCH_PLACE, () -> store.set(100, 8, 0, 1));
        for (int of : NUMBERS_OF_NOTHING) {
            refused("set in nothing", NO_SUCH_PLACE, () -> store.set(of, 0, 0, 1));
        }
        due("refused sets set nothing", 1, store.count(4));
        store.lose(0, true);
        store.lose(1, true);
        due("set in a lost piece", false, store.set(0, 0, 0, 1));
        due("is none", true, store.hole(0, 0, 0));
        due("set beside it", true, store.set(0, 8, 0, 1));
        due("set under it", true, store.set(0, 0, 8, 1));
        store.view(0, 0, 0, 48, 40, 1, false);
        due("set in the lost piece, through a turned view", false, store.set(101, 39, 0, 1));
        due("set beside it, through a turned view", true, store.set(101, 39, 8, 1));
        due("set under it, through a turned view", true, store.set(101, 31, 0, 1));
        due("set far from it, through a turned view", true, store.set(101, 0, 0, 1));
        store.lose(0, false);
        due("set where one host is there again", true, store.set(0, 0, 0, 1));
    }

    private static void dig() {
        GridStore store = holding("1 2 / 3 .");
        store.view(0, 0, 0, 2, 2, 1, false);
        due("dig", true, store.dig(0, 0, 0));
        due("dug", true, store.hole(0, 0, 0));
        due("dig again", false, store.dig(0, 0, 0));
        due("dig of a hole", false, store.dig(0, 1, 1));
        due("dig through a view", true, store.dig(100, 0, 0));
        due("what is left", ". 2 / . .", cells(store, 0));
        refused("dig of no cell", NO_SUCH_PLACE, () -> store.dig(0, 2, 0));
        refused("dig of no cell", NO_SUCH_PLACE, () -> store.dig(0, 0, -1));
        for (int of : NUMBERS_OF_NOTHING) {
            refused("dig in nothing", NO_SUCH_PLACE, () -> store.dig(of, 0, 0));
        }
        store.lose(0, true);
        store.lose(1, true);
        due("dig in a lost piece", false, store.dig(0, 1, 0));
    }

    private static void fill() {
        GridStore store = holding(". . . / . 5 . / . . .");
        due("fill", 3, store.fill(0, 0, 1, 2, 2, 5));
        due("filled", ". . . / 5 5 . / 5 5 .", cells(store, 0));
        due("fill again", 0, store.fill(0, 0, 1, 2, 2, 5));
        due("fill of one cell", 1, store.fill(0, 2, 2, 1, 1, -1));
        store.view(0, 0, 0, 3, 2, 1, true);
        due("fill through a view", 3, store.fill(100, 0, 0, 1, 3, 8));
        due("filled through it", "8 8 8 / 5 5 . / 5 5 -1", cells(store, 0));
        int[][] none = {{0, 0, 0, 1}, {0, 0, 1, 0}, {0, 0, 4, 1}, {0, 0, 1, 4}, {3, 0, 1, 1}, {-1, 0, 2, 1},
            {0, -1, 1, 2}, {1, 1, Integer.MAX_VALUE, 1}, {1, 1, 1, Integer.MAX_VALUE}, {0, 0, Integer.MIN_VALUE, 1}};
        for (int[] r : none) {
            refused("fill of no rectangle", WRONG, () -> store.fill(0, r[0], r[1], r[2], r[3], 1));
        }
        for (int of : NUMBERS_OF_NOTHING) {
            refused("fill in nothing", NO_SUCH_PLACE, () -> store.fill(of, 0, 0, 0, 0, 1));
        }
        due("refused fills fill nothing", "8 8 8 / 5 5 . / 5 5 -1", cells(store, 0));
        int great = store.grid(17, 9);
        store.lose(2, true);
        store.lose(1, true);
        due("fill passes lost pieces by", 17 * 9 - 64 - 8, store.fill(great, 0, 0, 17, 9, 3));
        due("nothing in piece (1, 0)", true, store.hole(great, 8, 0));
        due("nothing in piece (0, 1)", true, store.hole(great, 0, 8));
    }

    private static void holeAndGet() {
        GridStore store = holding("0 . / -7 3");
        store.view(0, 0, 0, 2, 2, 1, false);
        due("0 is a number", false, store.hole(0, 0, 0));
        due("get of 0", 0, store.get(0, 0, 0));
        due("a hole", true, store.hole(0, 1, 0));
        due("get of less than 0", -7, store.get(0, 0, 1));
        due("get in a view", -7, store.get(100, 0, 0));
        due("a hole in a view", true, store.hole(100, 1, 1));
        refused("get of a hole", NO_NUMBER, () -> store.get(0, 1, 0));
        refused("get of a hole in a view", NO_NUMBER, () -> store.get(100, 1, 1));
        int[][] none = {{2, 0}, {0, 2}, {-1, 0}, {0, -1}, {Integer.MAX_VALUE, 0}, {0, Integer.MIN_VALUE}};
        for (int[] cell : none) {
            refused("hole of no cell", NO_SUCH_PLACE, () -> store.hole(0, cell[0], cell[1]));
            refused("get of no cell", NO_SUCH_PLACE, () -> store.get(100, cell[0], cell[1]));
        }
        for (int of : NUMBERS_OF_NOTHING) {
            refused("hole in nothing", NO_SUCH_PLACE, () -> store.hole(of, 0, 0));
            refused("get in nothing", NO_SUCH_PLACE, () -> store.get(of, 0, 0));
        }
    }

    private static void kind() {
        GridStore store = new GridStore();
        store.grid(17, 9);
        due("bare", 0, store.kind(0, 0, 0));
        store.set(0, 0, 0, 4);
        due("sparse with one", 2, store.kind(0, 0, 0));
        store.fill(0, 0, 0, 4, 3, 4);
        due("sparse with 12", 2, store.kind(0, 0, 0));
        store.set(0, 4, 0, 4);
        due("full with 13", 3, store.kind(0, 0, 0));
        store.fill(0, 0, 0, 8, 8, 4);
        due("flat", 1, store.kind(0, 0, 0));
        store.set(0, 7, 7, 5);
        due("full of two numbers", 3, store.kind(0, 0, 0));
        store.dig(0, 7, 7);
        due("full with a hole", 3, store.kind(0, 0, 0));
        due("its neighbour", 0, store.kind(0, 1, 0));
        store.set(0, 16, 8, 0);
        due("flat at the rim, of one cell", 1, store.kind(0, 2, 1));
        store.fill(0, 16, 0, 1, 8, 1);
        due("flat at the rim, of 8", 1, store.kind(0, 2, 0));
        store.set(0, 16, 0, 2);
        due("sparse at the rim, without holes", 2, store.kind(0, 2, 0));
        store.fill(0, 8, 0, 8, 8, 6);
        store.dig(0, 8, 0);
        due("full with its first cell a hole", 3, store.kind(0, 1, 0));
        int[][] none = {{3, 0}, {0, 2}, {-1, 0}, {0, -1}, {Integer.MIN_VALUE, 0}, {0, Integer.MAX_VALUE}};
        for (int[] piece : none) {
            refused("kind of no piece", NO_SUCH_PLACE, () -> store.kind(0, piece[0], piece[1]));
        }
        store.view(0, 0, 0, 8, 8, 0, false);
        refused("kind of a view's piece", NO_SUCH_PLACE, () -> store.kind(100, 0, 0));
        refused("kind of no grid's piece", NO_SUCH_PLACE, () -> store.kind(1, 0, 0));
        store.grid(8, 8);
        refused("no piece behind 8 cells", NO_SUCH_PLACE, () -> store.kind(1, 1, 0));
        refused("no piece under 8 cells", NO_SUCH_PLACE, () -> store.kind(1, 0, 1));
    }

    private static void keep() {
        GridStore store = holding("1", "2");
        for (int layer = 0; layer < 20; layer++) {
            due("layer", layer, store.keep(0));
        }
        due("a layer too many", -1, store.keep(0));
        due("is none", 20, store.count(2));
        due("another grid's layer", 0, store.keep(1));
        store.view(0, 0, 0, 1, 1, 0, false);
        refused("keep of a view", NO_SUCH_PLACE, () -> store.keep(100));
        for (int grid : NUMBERS_OF_NOTHING) {
            refused("keep of nothing", NO_SUCH_PLACE, () -> store.keep(grid));
        }
    }

    private static void back() {
        GridStore store = holding("1 2 . .");
        store.keep(0);
        store.set(0, 1, 0, 3);
        store.set(0, 2, 0, 4);
        store.dig(0, 0, 0);
        store.keep(0);
        due("back", 3, store.back(0, 0));
        due("what was", "1 2 . .", cells(store, 0));
        due("back again", 0, store.back(0, 0));
        due("back to a later one", 3, store.back(0, 1));
        due("what was later", ". 3 4 .", cells(store, 0));
        due("layers stay", 2, store.count(2));
        for (int layer : new int[] {-1, 2, 20, Integer.MIN_VALUE, Integer.MAX_VALUE}) {
            refused("back to no layer", NO_SUCH_PLACE, () -> store.back(0, layer));
        }
        store.grid(4, 1);
        refused("back to another grid's layer", NO_SUCH_PLACE, () -> store.back(1, 0));
        int high = addGrid(store, "1 / 2 / 3");
        store.keep(high);
        store.fill(high, 0, 0, 1, 3, 9);
        due("back in a high grid", 3, store.back(high, 0));
        due("what was in it", "1 / 2 / 3", cells(store, high));
        store.view(0, 0, 0, 4, 1, 0, false);
        refused("back of a view", NO_SUCH_PLACE, () -> store.back(100, 0));
        refused("back of nothing", NO_SUCH_PLACE, () -> store.back(-1, 0));
    }

    private static void was() {
        GridStore store = holding("1 . / 3 4");
        store.keep(0);
        store.fill(0, 0, 0, 2, 2, 9);
        store.keep(0);
        store.dig(0, 0, 1);
        due("was", 3, store.was(0, 0, 0, 1));
        due("was later", 9, store.was(0, 1, 0, 1));
        due("was later, where a hole was", 9, store.was(0, 1, 1, 0));
        refused("was a hole", NO_NUMBER, () -> store.was(0, 0, 1, 0));
        refused("was in no layer", NO_SUCH_PLACE, () -> store.was(0, 2, 0, 0));
        refused("was in no layer", NO_SUCH_PLACE, () -> store.was(0, -1, 0, 0));
        int[][] none = {{2, 0}, {0, 2}, {-1, 0}, {0, -1}, {Integer.MAX_VALUE, 0}, {0, Integer.MIN_VALUE}};
        for (int[] cell : none) {
            refused("was in no cell", NO_SUCH_PLACE, () -> store.was(0, 0, cell[0], cell[1]));
        }
        int high = addGrid(store, "1 / 2 / 3");
        int wide = addGrid(store, "1 2 3");
        store.keep(high);
        store.keep(wide);
        due("was in a high grid", 3, store.was(high, 0, 0, 2));
        due("was in a wide grid", 3, store.was(wide, 0, 2, 0));
        refused("was in no cell of a high grid", NO_SUCH_PLACE, () -> store.was(high, 0, 2, 0));
        refused("was in no cell of a wide grid", NO_SUCH_PLACE, () -> store.was(wide, 0, 0, 2));
        store.view(0, 0, 0, 2, 2, 0, false);
        refused("was in a view", NO_SUCH_PLACE, () -> store.was(100, 0, 0, 0));
        refused("was in nothing", NO_SUCH_PLACE, () -> store.was(3, 0, 0, 0));
    }

    private static void differ() {
        GridStore store = new GridStore();
        store.grid(17, 17);
        store.fill(0, 0, 0, 17, 17, 1);
        store.keep(0);
        store.set(0, 7, 7, 2);
        store.set(0, 8, 8, 2);
        store.dig(0, 9, 9);
        store.dig(0, 16, 16);
        store.keep(0);
        store.set(0, 0, 9, 5);
        due("differ", 3, store.differ(0, 0, 1));
        due("the other way", 3, store.differ(0, 1, 0));
        due("from now", 4, store.differ(0, -1, 0));
        due("to now", 1, store.differ(0, 1, -1));
        due("not from itself", 0, store.differ(0, 1, 1));
        due("nor now from now", 0, store.differ(0, -1, -1));
        store.fill(0, 0, 0, 17, 17, 7);
        due("everywhere", 9, store.differ(0, 0, -1));
        int[][] none = {{2, 0}, {0, 2}, {-2, 0}, {0, -2}, {Integer.MAX_VALUE, -1}, {-1, Integer.MIN_VALUE}};
        for (int[] layers : none) {
            refused("differ of no layers", NO_SUCH_PLACE, () -> store.differ(0, layers[0], layers[1]));
        }
        store.view(0, 0, 0, 2, 2, 0, false);
        refused("differ of a view", NO_SUCH_PLACE, () -> store.differ(100, -1, -1));
        refused("differ of nothing", NO_SUCH_PLACE, () -> store.differ(1, -1, -1));
    }

    private static void lose() {
        GridStore store = holding("1 2", "3", "1 / 2 / 3");
        due("lose", true, store.lose(0, true));
        due("lose again", false, store.lose(0, true));
        due("one host is there still", "1 2", cells(store, 0));
        store.keep(0);
        due("lose the other one", true, store.lose(1, true));
        due("a lost piece", ". .", cells(store, 0));
        due("in another grid", ".", cells(store, 1));
        due("in a high grid", ". / . / .", cells(store, 2));
        due("a layer keeps it", 2, store.was(0, 0, 1, 0));
        due("no number comes back there", 0, store.back(0, 0));
        due("there again", true, store.lose(0, false));
        due("there again, again", false, store.lose(0, false));
        due("what was lost is lost", ". .", cells(store, 0));
        due("back", 2, store.back(0, 0));
        due("lose of a third one", true, store.lose(2, true));
        due("takes nothing from piece (0, 0)", "1 2", cells(store, 0));
        for (int host : new int[] {-1, 5, Integer.MIN_VALUE, Integer.MAX_VALUE}) {
            refused("lose of no host", NO_SUCH_PLACE, () -> store.lose(host, true));
            refused("no host there again", NO_SUCH_PLACE, () -> store.lose(host, false));
        }
    }

    private static void loseNeighbours() {
        for (int host = 0; host < 5; host++) {
            GridStore store = new GridStore();
            store.grid(48, 40);
            store.fill(0, 0, 0, 48, 40, 1);
            store.lose((host + 1) % 5, true);
            due("one host lost", 1920, store.count(4));
            store.lose(host, true);
            for (int q = 0; q < 5; q++) {
                for (int p = 0; p < 6; p++) {
                    due("kind of a piece where hosts are lost", (p + q) % 5 == host ? 0 : 1, store.kind(0, p, q));
                }
            }
            store.lose((host + 3) % 5, true);
            due("a host that is no neighbour", 1920 - 64 * 6, store.count(4));
        }
    }

    private static void sumAndMany() {
        GridStore store = new GridStore();
        store.grid(20, 20);
        for (int y = 0; y < 20; y++) {
            for (int x = 0; x < 20; x++) {
                store.set(0, x, y, x + 100 * y);
            }
        }
        store.dig(0, 10, 10);
        for (int r = 0; r <= 9; r++) {
            int side = 2 * r + 1;
            due("many by " + r, side * side - 1, store.many(0, 10, 10, r));
            due("sum by " + r, 1010L * (side * side - 1), store.sum(0, 10, 10, r));
        }
        due("sum around a cell to the right", 9L * 517, store.sum(0, 17, 5, 1));
        due("sum around a cell below", 9L * 1702, store.sum(0, 2, 17, 1));
        due("many at the right rim", 6, store.many(0, 19, 5, 1));
        due("many at the lower rim", 6, store.many(0, 5, 19, 1));
        due("many near the hole", 8, store.many(0, 11, 9, 1));
        due("many where x and y are far apart", 9, store.many(0, 3, 12, 1));
        due("many where x and y are far apart", 25, store.many(0, 16, 7, 2));
        due("many in a corner", 4, store.many(0, 0, 0, 1));
        due("many in the right corner", 4, store.many(0, 19, 0, 1));
        due("many in the lower corner", 4, store.many(0, 0, 19, 1));
        due("sum in a corner", 0L + 1 + 100 + 101, store.sum(0, 0, 0, 1));
        due("many in the other corner", 9, store.many(0, 19, 19, 2));
        due("sum in the other corner", 9L * 1818, store.sum(0, 19, 19, 2));
        store.view(0, 4, 5, 3, 2, 1, false);
        due("many in a view", 6, store.many(100, 0, 0, 9));
        due("sum in a view", 1515L + 1815, store.sum(100, 0, 0, 9));
        due("sum in a view's corner", 604L + 504 + 605 + 505, store.sum(100, 0, 0, 1));
        int full = store.grid(48, 40);
        due("fill of all", 1920, store.fill(full, 0, 0, 48, 40, 3));
        due("sum in the last corner of the greatest grid", 3L * 100, store.sum(full, 47, 39, 9));
        due("many in it", 100, store.many(full, 47, 39, 9));
        int narrow = addGrid(store, "5 / 5 / 5");
        due("sum in a narrow grid", 15L, store.sum(narrow, 0, 1, 1));
        due("sum in a wide grid behind it", 12L, store.sum(full, 0, 0, 1));
        due("many in it", 4, store.many(full, 0, 0, 1));
        store.view(full, 0, 0, 48, 40, 3, true);
        due("sum in the last corner of the greatest grid, turned", 3L * 100, store.sum(101, 39, 47, 9));
        due("many in it", 6, store.many(101, 39, 20, 1));
        int great = addGrid(store, "2147483647 2147483647 . / 2147483647 -2147483648 .");
        due("sum of 64 bits", 2147483647L * 3 - 2147483648L, store.sum(great, 0, 0, 1));
        due("sum less than 0", -2147483648L, store.sum(great, 1, 1, 0));
        due("sum of a hole", 0L, store.sum(great, 2, 0, 0));
        due("many of a hole", 0, store.many(great, 2, 0, 0));
        for (int r : new int[] {-1, 10, Integer.MIN_VALUE, Integer.MAX_VALUE}) {
            refused("sum by none", WRONG, () -> store.sum(0, 0, 0, r));
            refused("many by none", WRONG, () -> store.many(0, 0, 0, r));
            refused("sum by none of no cell", NO_SUCH_PLACE, () -> store.sum(0, 20, 0, r));
            refused("many by none of no cell", NO_SUCH_PLACE, () -> store.many(0, 0, 20, r));
        }
        refused("sum around no cell", NO_SUCH_PLACE, () -> store.sum(100, 2, 0, 1));
        refused("many around no cell", NO_SUCH_PLACE, () -> store.many(100, -1, 0, 1));
        for (int of : NUMBERS_OF_NOTHING) {
            refused("sum of nothing", NO_SUCH_PLACE, () -> store.sum(of, 0, 0, 10));
            refused("many of nothing", NO_SUCH_PLACE, () -> store.many(of, 0, 0, 10));
        }
    }

    private static void find() {
        GridStore store = holding("1 . 5 / 4 9 5 / . 7 -3");
        due("find", 2, store.find(0, 5));
        due("find of one between", 2, store.find(0, 2));
        due("find by y, then by x", 101, store.find(0, 6));
        due("find of the least", 0, store.find(0, Integer.MIN_VALUE));
        due("find of none", -1, store.find(0, 10));
        due("find of the greatest", -1, store.find(0, Integer.MAX_VALUE));
        store.view(0, 0, 0, 3, 3, 1, false);
        due("view", ". 4 1 / 7 9 . / -3 5 5", cells(store, 100));
        due("find in a view", 100, store.find(100, 5));
        due("find in a view, behind a hole", 1, store.find(100, -9));
        store.view(0, 1, 1, 1, 1, 0, false);
        due("find in a view of one cell", 0, store.find(101, 9));
        store.dig(101, 0, 0);
        due("find in a view alone", -1, store.find(101, -9));
        store.set(101, 0, 0, 9);
        addGrid(store, ". .");
        due("find in holes", -1, store.find(1, Integer.MIN_VALUE));
        int wide = addGrid(store, ". . . 0");
        due("find of 0", 3, store.find(wide, 0));
        int tall = addGrid(store, ". / . / . / -5");
        due("find in the last row", 300, store.find(tall, -5));
        store.dig(wide, 3, 0);
        due("find looks at each cell that there is alone", -1, store.find(wide, -5));
        int great = store.grid(48, 40);
        store.set(great, 47, 39, Integer.MIN_VALUE);
        due("find in the last cell", 3947, store.find(great, Integer.MIN_VALUE));
        for (int of : NUMBERS_OF_NOTHING) {
            refused("find in nothing", NO_SUCH_PLACE, () -> store.find(of, 0));
        }
    }

    private static void slide() {
        GridStore store = holding("1 2 . . / 3 . . . / . . . 8", "9 . . . / . . . . / . . . 8");
        due("slide by 0", 3, store.slide(0, 0, 1));
        due("is a copy", cells(store, 0), cells(store, 1));
        due("slide by 1", 10, store.slide(0, 1, 1));
        due("sums", "6 6 2 . / 6 6 10 8 / 3 3 8 8", cells(store, 1));
        due("slide again", 0, store.slide(0, 1, 1));
        due("slide by 4", 12, store.slide(0, 4, 1));
        due("sums of all", "14 14 14 14 / 14 14 14 14 / 14 14 14 14", cells(store, 1));
        due("what was given stays", "1 2 . . / 3 . . . / . . . 8", cells(store, 0));
        store.view(0, 0, 0, 3, 2, 1, false);
        addGrid(store, ". . / . . / 5 5");
        due("slide of a view", 5, store.slide(100, 0, 2));
        due("is its copy", "3 1 / . 2 / . .", cells(store, 2));
        addGrid(store, "2147483647 1");
        addGrid(store, ". .");
        due("slide of much", 2, store.slide(3, 1, 4));
        due("is cut to 32 bits", "-2147483648 -2147483648", cells(store, 4));
        due("also for sums", -4294967296L, store.sum(4, 0, 0, 1));
        for (int r : new int[] {-1, 5, Integer.MIN_VALUE, Integer.MAX_VALUE}) {
            refused("slide by none", WRONG, () -> store.slide(0, r, 1));
            refused("slide by none into nothing", NO_SUCH_PLACE, () -> store.slide(0, r, 5));
        }
        refused("slide into itself", WRONG, () -> store.slide(0, 1, 0));
        store.view(100, 0, 0, 2, 3, 3, true);
        refused("slide of other sizes", WRONG, () -> store.slide(0, 1, 2));
        int square = addGrid(store, "1 2 / 3 4");
        store.view(square, 0, 0, 2, 2, 1, false);
        store.view(102, 0, 0, 2, 2, 1, false);
        refused("slide of a view into its grid", WRONG, () -> store.slide(103, 1, square));
        refused("slide into a view", NO_SUCH_PLACE, () -> store.slide(0, 1, 100));
        for (int of : NUMBERS_OF_NOTHING) {
            refused("slide of nothing", NO_SUCH_PLACE, () -> store.slide(of, 1, 1));
            refused("slide into nothing", NO_SUCH_PLACE, () -> store.slide(0, 1, of));
        }
    }

    private static void fold() {
        GridStore store = holding("1 2 . / . . . / 2147483647 . 5", "7 / 7 / 7", "7 2 7");
        due("fold along x", 3, store.fold(0, false, 1));
        due("sums of rows", "3 / . / -2147483644", cells(store, 1));
        due("fold along y", 2, store.fold(0, true, 2));
        due("sums of columns", "-2147483648 2 5", cells(store, 2));
        due("fold again", 0, store.fold(0, true, 2));
        int wideGrid = addGrid(store, "1 2 3 4 5");
        int tallGrid = addGrid(store, "1 / 2 / 3 / 4 / 5");
        int one = addGrid(store, ".");
        due("fold of a long row", 1, store.fold(wideGrid, false, one));
        due("its sum", 15, store.get(one, 0, 0));
        store.set(one, 0, 0, 0);
        due("fold of a high column", 1, store.fold(tallGrid, true, one));
        due("its sum", 15, store.get(one, 0, 0));
        int row = addGrid(store, ". . . . .");
        due("fold of a row along y", 5, store.fold(wideGrid, true, row));
        due("is the row", "1 2 3 4 5", cells(store, row));
        due("fold of a column along x", 0, store.fold(tallGrid, false, addGrid(store, "1 / 2 / 3 / 4 / 5")));
        store.view(0, 0, 0, 3, 3, 1, false);
        due("fold of a view", 3, store.fold(100, false, 1));
        due("sums of its rows", "-2147483648 / 2 / 5", cells(store, 1));
        refused("fold along x into a row", WRONG, () -> store.fold(0, false, 2));
        refused("fold along y into a column", WRONG, () -> store.fold(0, true, 1));
        refused("fold into itself", WRONG, () -> store.fold(1, false, 1));
        store.view(2, 0, 0, 3, 1, 2, false);
        refused("fold of a view into its grid", WRONG, () -> store.fold(101, true, 2));
        refused("fold into a longer row", WRONG, () -> store.fold(0, true, wideGrid));
        refused("fold into a view", NO_SUCH_PLACE, () -> store.fold(0, true, 101));
        for (int of : NUMBERS_OF_NOTHING) {
            refused("fold of nothing", NO_SUCH_PLACE, () -> store.fold(of, true, 2));
            refused("fold into nothing", NO_SUCH_PLACE, () -> store.fold(0, false, of));
        }
    }

    private static void joinHows() {
        String first = "1 5 . .";
        String second = "3 . 4 .";
        String[] told = {"4 5 4 .", "1 . . .", "1 5 4 .", ". 5 . ."};
        int[] changed = {3, 1, 2, 2};
        for (int how = 0; how < 4; how++) {
            GridStore given = holding(first, second, "1 9 . .");
            due("changed by join " + how, changed[how], given.join(0, 1, how, 2));
            due("join " + how, told[how], cells(given, 2));
            due("join " + how + " again", 0, given.join(0, 1, how, 2));
            due("what was given stays", first + " and " + second, cells(given, 0) + " and " + cells(given, 1));
        }
        GridStore store = holding("2147483647 -2147483648 3 -5", "1 -1 3 -6", "0 0 0 0");
        due("join of much", 4, store.join(0, 1, 0, 2));
        due("goes round", "-2147483648 2147483647 6 -11", cells(store, 2));
        due("also for sums", -2147483648L, store.sum(2, 0, 0, 0));
        store.join(0, 1, 1, 2);
        due("the lesser", "1 -2147483648 3 -6", cells(store, 2));
        due("join of one with itself", 4, store.join(1, 1, 0, 2));
        due("is twice it", "2 -2 6 -12", cells(store, 2));
        store.view(0, 0, 0, 4, 1, 0, true);
        store.join(100, 1, 2, 2);
        due("join of a view", "-5 3 -2147483648 2147483647", cells(store, 2));
        GridStore high = holding("0 / . / 0 / 5", "7 / 0 / . / 6", ". / . / . / .");
        String[] toldHigh = {"7 / 0 / 0 / 11", "0 / . / . / 5", "0 / 0 / 0 / 5", ". / . / 0 / ."};
        for (int how = 0; how < 4; how++) {
            high.join(0, 1, how, 2);
            due("join with 0, how " + how, toldHigh[how], cells(high, 2));
        }
        high.join(1, 0, 1, 2);
        due("the lesser, the other way", "0 / . / . / 5", cells(high, 2));
    }

    private static void joinRefusals() {
        GridStore store = holding("1 2", "3 4", ". .", "1 / 2", "1 2 3");
        store.view(2, 0, 0, 2, 1, 2, false);
        store.view(3, 0, 0, 1, 2, 1, false);
        for (int how : new int[] {-1, 4, Integer.MIN_VALUE, Integer.MAX_VALUE}) {
            refused("join of no how", WRONG, () -> store.join(0, 1, how, 2));
            refused("join of no how into nothing", NO_SUCH_PLACE, () -> store.join(0, 1, how, 7));
        }
        refused("join of unlike sizes", WRONG, () -> store.join(0, 3, 0, 2));
        refused("join of unlike sizes", WRONG, () -> store.join(4, 0, 0, 2));
        refused("join into another size", WRONG, () -> store.join(0, 1, 0, 4));
        refused("join of itself", WRONG, () -> store.join(2, 1, 0, 2));
        refused("join with itself", WRONG, () -> store.join(0, 2, 0, 2));
        refused("join of its view", WRONG, () -> store.join(100, 1, 0, 2));
        refused("join with its view", WRONG, () -> store.join(0, 100, 0, 2));
        refused("join into a view", NO_SUCH_PLACE, () -> store.join(0, 1, 0, 100));
        for (int of : NUMBERS_OF_NOTHING) {
            refused("join of nothing", NO_SUCH_PLACE, () -> store.join(of, 1, 0, 2));
            refused("join with nothing", NO_SUCH_PLACE, () -> store.join(0, of, 0, 2));
            refused("join into nothing", NO_SUCH_PLACE, () -> store.join(0, 1, 0, of));
        }
        due("refused joins write nothing", ". .", cells(store, 2));
        due("join with a turned view", 2, store.join(0, 101, 0, 2));
        due("is as wide", "3 3", cells(store, 2));
    }

    private static void coarse() {
        GridStore store = holding("1 2 -1 . 7 / 2 2 -2 . 9 / . . -1 -1 .", ". . . / . . 4");
        due("coarse by 2", 5, store.coarse(0, 2, 1));
        due("means, rounded down", "1 -2 8 / . -1 .", cells(store, 1));
        due("coarse again", 0, store.coarse(0, 2, 1));
        addGrid(store, "0 0");
        due("coarse by 3", 1, store.coarse(0, 3, 2));
        due("means of 3 x 3, fewer at the rim", "0 5", cells(store, 2));
        addGrid(store, ".");
        due("coarse by 8", 1, store.coarse(0, 8, 3));
        due("mean of all", "1", cells(store, 3));
        addGrid(store, "2147483647 2147483647 / 2147483647 2147483646");
        store.coarse(4, 2, 3);
        due("mean of much", "2147483646", cells(store, 3));
        addGrid(store, "-2147483648 -2147483648 / -2147483648 -2147483647");
        store.coarse(5, 5, 3);
        due("mean of much less than 0", "-2147483648", cells(store, 3));
        store.view(0, 0, 0, 5, 3, 1, false);
        addGrid(store, ". . / . . / . .");
        due("coarse of a view", 6, store.coarse(100, 2, 6));
        due("its means", "2 1 / -2 -1 / 9 7", cells(store, 6));
        store.grid(5, 3);
        refused("coarse by 1 into what is as great", WRONG, () -> store.coarse(0, 1, 7));
        refused("coarse by 9 into one cell", WRONG, () -> store.coarse(0, 9, 3));
        for (int k : new int[] {-1, 0, 1, 9, Integer.MIN_VALUE, Integer.MAX_VALUE}) {
            refused("coarse by none", WRONG, () -> store.coarse(0, k, 1));
            refused("coarse by none into nothing", NO_SUCH_PLACE, () -> store.coarse(0, k, 8));
        }
        refused("coarse of other sizes", WRONG, () -> store.coarse(0, 3, 1));
        refused("coarse into itself", WRONG, () -> store.coarse(3, 2, 3));
        store.view(3, 0, 0, 1, 1, 0, false);
        refused("coarse of a view into its grid", WRONG, () -> store.coarse(101, 2, 3));
        refused("coarse into a view", NO_SUCH_PLACE, () -> store.coarse(0, 8, 101));
        for (int of : NUMBERS_OF_NOTHING) {
            refused("coarse of nothing", NO_SUCH_PLACE, () -> store.coarse(of, 2, 1));
            refused("coarse into nothing", NO_SUCH_PLACE, () -> store.coarse(0, 2, of));
        }
    }

    private static void read() {
        GridStore store = new GridStore();
        store.grid(48, 40);
        due("read of all", 30, store.read(0, 0, 0, 48, 40));
        due("read of a cell", 1, store.read(0, 47, 39, 1, 1));
        due("read of a piece", 1, store.read(0, 8, 16, 8, 8));
        due("read over a rim", 4, store.read(0, 7, 15, 2, 2));
        due("read to the right", 2, store.read(0, 35, 0, 10, 3));
        due("read below over a rim", 2, store.read(0, 1, 30, 3, 3));
        due("read of wide pieces", 3, store.read(0, 7, 0, 10, 8));
        due("read of high pieces", 3, store.read(0, 0, 7, 8, 10));
        store.view(0, 7, 0, 9, 20, 1, true);
        due("read of a view", 6, store.read(100, 0, 0, 20, 9));
        due("read of a view's cell", 1, store.read(100, 0, 0, 1, 1));
        due("read of a view's far part", 2, store.read(100, 12, 3, 8, 2));
        due("read of a view's row", 2, store.read(100, 0, 0, 1, 9));
        due("read of a view's column", 3, store.read(100, 0, 0, 20, 1));
        store.view(100, 0, 0, 20, 9, 1, false);
        due("read of a view's view", 2, store.read(101, 0, 0, 9, 8));
        due("read of a view's view over a rim", 4, store.read(101, 0, 7, 9, 2));
        int[][] none = {{0, 0, 21, 1}, {0, 0, 1, 10}, {0, 0, 0, 1}, {0, 0, 1, 0}, {-1, 0, 1, 1}, {0, -1, 1, 1},
            {20, 0, 1, 1}, {0, 9, 1, 1}, {1, 0, Integer.MAX_VALUE, 1}, {0, 1, 1, Integer.MAX_VALUE}};
        for (int[] r : none) {
            refused("read of no rectangle", WRONG, () -> store.read(100, r[0], r[1], r[2], r[3]));
        }
        for (int of : NUMBERS_OF_NOTHING) {
            refused("read of nothing", NO_SUCH_PLACE, () -> store.read(of, 0, 0, 0, 0));
        }
    }

    private static void count() {
        GridStore store = new GridStore();
        store.grid(17, 9);
        store.grid(8, 8);
        store.grid(16, 8);
        store.view(0, 0, 0, 3, 3, 0, false);
        store.fill(0, 0, 0, 8, 8, 1);
        store.set(0, 8, 0, 1);
        store.fill(1, 0, 0, 8, 7, 2);
        store.keep(0);
        store.keep(0);
        store.keep(2);
        store.lose(3, true);
        int[] told = {3, 1, 3, 1, 64 + 1 + 56, 4 + 2, 1, 1, 1};
        for (int what = 0; what < told.length; what++) {
            due("count of " + what, told[what], store.count(what));
        }
        for (int what : new int[] {-1, 9, Integer.MIN_VALUE, Integer.MAX_VALUE}) {
            due("count of nothing", -1, store.count(what));
        }
        for (int host = 0; host < 5; host += 2) {
            due("a host is lost", true, store.lose(host, true));
            due("it is counted", 2, store.count(3));
            store.lose(host, false);
        }
        due("a high grid", 3, addGrid(store, "1 / 2 / 3"));
        due("its numbers are counted", 124, store.count(4));
        store.fill(3, 0, 0, 1, 3, 1);
        store.dig(3, 0, 0);
        store.dig(3, 0, 1);
        store.dig(3, 0, 2);
        store.dig(0, 8, 0);
        store.lose(3, false);
        due("count of numbers after dig", 120, store.count(4));
        due("count of lost hosts after it is there again", 0, store.count(3));
    }

    private static void lostTargets() {
        GridStore store = new GridStore();
        store.grid(10, 1);
        store.grid(10, 1);
        store.fill(0, 0, 0, 10, 1, 3);
        store.fill(1, 0, 0, 10, 1, 4);
        store.keep(1);
        store.lose(1, true);
        store.lose(2, true);
        due("the lost piece is passed by in what is given", 8, store.slide(0, 0, 1));
        due("only the other one is written", "3 3 3 3 3 3 3 3 . .", cells(store, 1));
        store.lose(1, false);
        store.lose(2, false);
        store.fill(0, 8, 0, 2, 1, 6);
        store.lose(0, true);
        store.lose(1, true);
        due("slide of what is lost", 2, store.slide(0, 0, 1));
        due("holes stay where it is lost", ". . . . . . . . 6 6", cells(store, 1));
        due("back passes it by, too", 2, store.back(1, 0));
        due("and writes the others", ". . . . . . . . 4 4", cells(store, 1));
        store.lose(0, false);
        store.fill(0, 0, 0, 8, 1, 9);
        store.lose(0, true);
        store.grid(10, 1);
        due("a new grid's lost piece is lost", false, store.set(2, 0, 0, 1));
        due("fill passes it by", 2, store.fill(2, 0, 0, 10, 1, 1));
        due("join passes it by", 2, store.join(1, 2, 0, 0));
        store.grid(2, 1);
        due("coarse passes it by", 0, store.coarse(1, 8, 3));
        store.grid(1, 1);
        due("fold passes it by", 0, store.fold(1, false, 4));
    }
}
