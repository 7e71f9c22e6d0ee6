/** Terms 3, sentence by sentence: SUM, HOW MANY, FIND, the acts into a GRID, READ. */
public final class ActBoundariesTest extends Checks {
    /** An act into a grid. */
    private interface Into {
        Object on(GridStore store, int grid);
    }

    public static void main(String[] args) {
        sumRadius();
        atMostRSteps();
        cellsThatThereAre();
        roundAt64Bits();
        howManyHaveNumbers();
        findOrder();
        findThatOrMore();
        intoItselfOrItsViews();
        asWideAndHigh();
        setAsTold();
        aheadOfTheAct();
        slideRadius();
        slideCut();
        slideHoles();
        foldAlongX();
        foldAlongY();
        foldGoesRound();
        joinAlike();
        joinHow();
        joinSum();
        joinLesser();
        joinFirstElseSecond();
        joinWhereSecondIsHole();
        coarseBy();
        coarseSize();
        coarseRims();
        coarseRoundedDown();
        coarseHoles();
        cellsChanged();
        readPieces();
        severalExceptions();
        finish("ActBoundariesTest");
    }

    /** All cells of the grid hold the number. */
    private static State filled(int wide, int high, int v) {
        return new State(s -> s.grid(wide, high), s -> s.fill(0, 0, 0, wide, high, v));
    }

    private static void sumRadius() {
        sentence("SUM around (x, y) by r (0 to 9)");
        State state = filled(21, 21, 2).then(s -> s.view(0, 0, 0, 21, 21, 1, true));
        for (int of : new int[] {0, 100}) {
            GridStore store = state.made();
            for (int r = 0; r <= 9; r++) {
                int cells = (2 * r + 1) * (2 * r + 1);
                due("sum by " + r, 2L * cells, store.sum(of, 10, 10, r));
                due("many by " + r, cells, store.many(of, 10, 10, r));
            }
            for (int r : new int[] {-1, 10, 11, LEAST, MOST}) {
                unchanged("sum by " + r, state, WRONG, s -> s.sum(of, 10, 10, r));
                unchanged("many by " + r, state, WRONG, s -> s.many(of, 10, 10, r));
            }
            for (int[] cell : new int[][] {{-1, 0}, {0, -1}, {21, 0}, {0, 21}, {LEAST, 0}, {0, LEAST}, {MOST, 0},
                {0, MOST}}) {
                unchanged("sum around no cell", state, NO_SUCH_PLACE, s -> s.sum(of, cell[0], cell[1], 9));
                unchanged("many around no cell", state, NO_SUCH_PLACE, s -> s.many(of, cell[0], cell[1], 9));
            }
        }
        unchanged("a sum changes nothing", state, 2L * 361, s -> s.sum(100, 10, 10, 9));
        unchanged("many changes nothing", state, 361, s -> s.many(0, 10, 10, 9));
    }

    private static void atMostRSteps() {
        sentence("of all CELLS at most r king's steps from it");
        int[][] ways = {{1, 0}, {-1, 0}, {0, 1}, {0, -1}, {1, 1}, {1, -1}, {-1, 1}, {-1, -1}};
        for (int r = 0; r <= 9; r++) {
            for (int[] way : ways) {
                GridStore store = new GridStore();
                store.grid(23, 23);
                store.set(0, 11 + r * way[0], 11 + r * way[1], 5);
                due("sum by " + r + " of one just as far", 5L, store.sum(0, 11, 11, r));
                due("many by " + r + " of one just as far", 1, store.many(0, 11, 11, r));
                store.dig(0, 11 + r * way[0], 11 + r * way[1]);
                store.set(0, 11 + (r + 1) * way[0], 11 + (r + 1) * way[1], 5);
                due("sum by " + r + " of one a step further", 0L, store.sum(0, 11, 11, r));
                due("many by " + r + " of one a step further", 0, store.many(0, 11, 11, r));
            }
        }
        GridStore store = new GridStore();
        store.grid(23, 23);
        store.set(0, 15, 12, 5);
        due("steps are the greater of the two ways", 1, store.many(0, 11, 11, 4));
        due("not within fewer", 0, store.many(0, 11, 11, 3));
    }

    private static void cellsThatThereAre() {
        sentence("of all CELLS that there are");
        GridStore store = filled(12, 11, 1).made();
        int[][] around = {{0, 0, 1, 4}, {11, 10, 1, 4}, {11, 0, 1, 4}, {0, 10, 1, 4}, {5, 0, 1, 6}, {0, 5, 1, 6},
            {11, 5, 1, 6}, {5, 10, 1, 6}, {0, 0, 9, 100}, {11, 10, 9, 100}, {1, 1, 9, 121}, {5, 5, 9, 132},
            {2, 1, 9, 12 * 11}, {2, 5, 9, 132}, {1, 5, 9, 11 * 11}, {1, 0, 9, 11 * 10}, {10, 9, 9, 121}};
        for (int[] a : around) {
            due("many around (" + a[0] + ", " + a[1] + ") by " + a[2], a[3], store.many(0, a[0], a[1], a[2]));
            due("sum around it", (long) a[3], store.sum(0, a[0], a[1], a[2]));
        }
        store.view(0, 4, 4, 3, 2, 1, false);
        due("a view's cells alone", 6, store.many(100, 0, 0, 9));
        due("a view's cells alone, summed", 6L, store.sum(100, 1, 2, 9));
        due("a view's corner", 4, store.many(100, 1, 2, 1));
        store.grid(1, 1);
        due("many of a single hole", 0, store.many(1, 0, 0, 9));
        due("its sum", 0L, store.sum(1, 0, 0, 9));
        store.set(1, 0, 0, -3);
        due("many of a single cell", 1, store.many(1, 0, 0, 9));
        due("its sum", -3L, store.sum(1, 0, 0, 9));
    }

    private static void roundAt64Bits() {
        sentence("the numbers, going round at 64 bits");
        due("the greatest sum that can be", 361L * MOST, filled(19, 19, MOST).made().sum(0, 9, 9, 9));
        due("the least sum that can be", 361L * LEAST, filled(19, 19, LEAST).made().sum(0, 9, 9, 9));
        GridStore store = holding("2147483647 1", "-2147483648 -1");
        due("one more than 32 bits hold", 2147483648L, store.sum(0, 0, 0, 1));
        due("one less than 32 bits hold", -2147483649L, store.sum(1, 0, 0, 1));
    }

    private static void howManyHaveNumbers() {
        sentence("HOW MANY have numbers");
        GridStore store = holding(". 0 . / -1 . 1 / . . .");
        due("zeros and numbers below are numbers", 3, store.many(0, 1, 1, 1));
        due("though they make 0 together", 0L, store.sum(0, 1, 1, 1));
        due("a hole by 0", 0, store.many(0, 1, 1, 0));
        due("a zero by 0", 1, store.many(0, 1, 0, 0));
        due("only those near", 2, store.many(0, 2, 0, 1));
        due("none near", 1, store.many(0, 0, 2, 1));
        store.dig(0, 0, 1);
        due("none near", 0, store.many(0, 0, 2, 1));
    }

    private static void findOrder() {
        sentence("FIND of a number v: the first CELL, by y, then by x");
        GridStore store = holding(". . 3 / 3 . . / . 3 .", "1 2 3 / 4 5 6 / 7 8 9");
        due("first by y", 2, store.find(0, 3));
        store.dig(0, 2, 0);
        due("then the next row", 100, store.find(0, 3));
        store.dig(0, 0, 1);
        due("then the last row", 201, store.find(0, 3));
        store.dig(0, 1, 2);
        due("then none", -1, store.find(0, 3));
        for (int v = 1; v <= 9; v++) {
            due("find of " + v, (v - 1) % 3 + 100 * ((v - 1) / 3), store.find(1, v));
        }
        store.view(1, 0, 0, 3, 3, 1, false);
        due("by a turned view's y and x", 0, store.find(100, 7));
        due("in its own numbers", 200, store.find(100, 9));
        due("in its own numbers", 100, store.find(100, 8));
        for (int quarters = 0; quarters < 4; quarters++) {
            int[] corner = {101, 100, 0, 1};
            store.view(1, 0, 0, 2, 2, quarters, false);
            due("a view's last number", corner[quarters], store.find(101 + quarters, 5));
            due("none beside a view, nor under it", -1, store.find(101 + quarters, 6));
        }
        State great = new State(s -> s.grid(48, 40), s -> s.set(0, 47, 39, 1));
        due("the last cell of the greatest grid", 3947, great.made().find(0, 1));
        GridStore turned = great.made();
        turned.view(0, 0, 0, 48, 40, 1, true);
        due("the last cell of the highest view", 4739, turned.find(100, 1));
        unchanged("a find changes nothing", great, 3947, s -> s.find(0, 0));
        unchanged("nor does one of none", great, -1, s -> s.find(0, 2));
    }

    private static void findThatOrMore() {
        sentence("whose number is v or more: NONE without one");
        GridStore store = holding("-5 7", "-2147483648", "2147483647", ". .");
        int[][] told = {{LEAST, 0}, {-6, 0}, {-5, 0}, {-4, 1}, {0, 1}, {6, 1}, {7, 1}, {8, -1}, {MOST, -1}};
        for (int[] one : told) {
            due("find of " + one[0], one[1], store.find(0, one[0]));
        }
        due("the least number is it or more", 0, store.find(1, LEAST));
        due("and not one more", -1, store.find(1, LEAST + 1));
        due("the greatest number is it", 0, store.find(2, MOST));
        due("and more than all", 0, store.find(2, LEAST));
        due("holes have no number", -1, store.find(3, LEAST));
        due("nor 0", -1, store.find(3, 0));
    }

    /**
     * Grid 0 is 4 x 4 and goes into grid 1, 2 (along x), 3 (along y), 4 (by 2). Views 100 to 104 show all of each,
     * 105 and 106 grid 1 through other views.
     */
    private static State forActs() {
        State state = new State(s -> addGrid(s, "1 2 3 4 / 5 6 7 8 / . . 1 1 / . . 1 1"), s -> s.grid(4, 4),
            s -> s.grid(1, 4), s -> s.grid(4, 1), s -> s.grid(2, 2));
        for (int grid = 0; grid < 5; grid++) {
            int of = grid;
            state = state.then(s -> s.set(of, 0, 0, 40 + of), s -> s.keep(of),
                s -> s.view(of, 0, 0, s.size(of, false), s.size(of, true), 0, false));
        }
        return state.then(s -> s.view(101, 0, 0, 4, 4, 2, true), s -> s.view(105, 0, 0, 4, 4, 0, false));
    }

    private static void intoItselfOrItsViews() {
        sentence("Acts into a GRID (never of a VIEW of it, nor itself)");
        State state = forActs();
        for (int of : new int[] {1, 101, 105, 106}) {
            unchanged("slide of " + of + " into grid 1", state, WRONG, s -> s.slide(of, 1, 1));
            unchanged("slide by 0 of " + of + " into grid 1", state, WRONG, s -> s.slide(of, 0, 1));
            unchanged("join of " + of + " into grid 1", state, WRONG, s -> s.join(of, 0, 2, 1));
            unchanged("join with " + of + " into grid 1", state, WRONG, s -> s.join(0, of, 2, 1));
            unchanged("join of it with it into grid 1", state, WRONG, s -> s.join(of, of, 0, 1));
        }
        for (int of : new int[] {2, 102}) {
            unchanged("fold along x of " + of + " into grid 2", state, WRONG, s -> s.fold(of, false, 2));
        }
        for (int of : new int[] {3, 103}) {
            unchanged("fold along y of " + of + " into grid 3", state, WRONG, s -> s.fold(of, true, 3));
        }
        State one = new State(s -> s.grid(1, 1), s -> s.set(0, 0, 0, 6), s -> s.view(0, 0, 0, 1, 1, 0, false),
            s -> s.grid(1, 1), s -> s.set(1, 0, 0, 7), s -> s.view(1, 0, 0, 1, 1, 0, false));
        for (int of : new int[] {0, 100}) {
            unchanged("slide of one cell", one, WRONG, s -> s.slide(of, 0, 0));
            unchanged("fold of one cell", one, WRONG, s -> s.fold(of, true, 0));
            unchanged("fold of one cell along x", one, WRONG, s -> s.fold(of, false, 0));
            unchanged("join of one cell", one, WRONG, s -> s.join(of, 1, 0, 0));
            unchanged("join with one cell", one, WRONG, s -> s.join(1, of, 0, 0));
            unchanged("coarse of one cell", one, WRONG, s -> s.coarse(of, 2, 0));
            due("slide into another one", 1, one.made().slide(of, 0, 1));
            due("fold into another one", 1, one.made().fold(of, true, 1));
            due("join into another one", 1, one.made().join(of, of, 0, 1));
            due("coarse into another one", 1, one.made().coarse(of, 2, 1));
        }
        for (int of : new int[] {0, 100}) {
            GridStore store = state.made();
            due("slide of " + of + " into grid 1", 12, store.slide(of, 0, 1));
            due("fold along x of " + of, 4, store.fold(of, false, 2));
            due("fold along y of " + of, 4, store.fold(of, true, 3));
            due("coarse of " + of, 3, store.coarse(of, 2, 4));
            due("join of " + of, 12, store.join(of, of, 0, 1));
        }
    }

    private static void needSize(String act, Into into, int wide, int high) {
        int[][] others = {{1, 0}, {-1, 0}, {0, 1}, {0, -1}, {1, 1}};
        State source = new State(s -> s.grid(7, 5), s -> s.fill(0, 0, 0, 7, 5, 3));
        due(act + " into " + wide + " x " + high, wide * high,
            into.on(source.then(s -> s.grid(wide, high)).made(), 1));
        for (int[] other : others) {
            if (wide + other[0] > 0 && high + other[1] > 0) {
                State state = source.then(s -> s.grid(wide + other[0], high + other[1]), s -> s.set(1, 0, 0, 9));
                unchanged(act + " into " + (wide + other[0]) + " x " + (high + other[1]), state, WRONG,
                    s -> into.on(s, 1));
            }
        }
        if (wide != high) {
            unchanged(act + " into the size turned", source.then(s -> s.grid(high, wide)), WRONG, s -> into.on(s, 1));
        }
    }

    private static void asWideAndHigh() {
        sentence("which must be as wide and as high as what comes");
        needSize("slide", (s, grid) -> s.slide(0, 2, grid), 7, 5);
        needSize("fold along x", (s, grid) -> s.fold(0, false, grid), 1, 5);
        needSize("fold along y", (s, grid) -> s.fold(0, true, grid), 7, 1);
        needSize("join", (s, grid) -> s.join(0, 0, 0, grid), 7, 5);
        needSize("coarse by 2", (s, grid) -> s.coarse(0, 2, grid), 4, 3);
        needSize("coarse by 3", (s, grid) -> s.coarse(0, 3, grid), 3, 2);
        needSize("coarse by 4", (s, grid) -> s.coarse(0, 4, grid), 2, 2);
        needSize("coarse by 5", (s, grid) -> s.coarse(0, 5, grid), 2, 1);
        needSize("coarse by 6", (s, grid) -> s.coarse(0, 6, grid), 2, 1);
        needSize("coarse by 7", (s, grid) -> s.coarse(0, 7, grid), 1, 1);
        needSize("coarse by 8", (s, grid) -> s.coarse(0, 8, grid), 1, 1);
        GridStore store = new GridStore();
        store.grid(48, 40);
        store.fill(0, 0, 0, 48, 40, 1);
        store.view(0, 0, 0, 48, 40, 1, false);
        store.grid(1, 40);
        refused("a view of 48 rows goes into no grid of 40", WRONG, () -> store.fold(100, false, 1));
        store.grid(40, 1);
        due("its columns go", 40, store.fold(100, true, 2));
    }

    private static void setAsTold() {
        sentence("each CELL is set as told (HOLES, too)");
        String[] before = {"9 9 9 / 9 9 9", ". . . / . . ."};
        for (String was : before) {
            GridStore store = holding("1 . . / . . 2", was);
            store.slide(0, 0, 1);
            due("slide", "1 . . / . . 2", cells(store, 1));
            store = holding("1 . . / . . 2", was);
            store.join(0, 0, 1, 1);
            due("join", "1 . . / . . 2", cells(store, 1));
            store = holding("1 . . / . . 2", was.substring(0, 5));
            store.fold(0, true, 1);
            due("fold along y", "1 . 2", cells(store, 1));
            store = holding("1 3 . / . . .", was.substring(0, 1) + " / " + was.substring(0, 1));
            store.fold(0, false, 1);
            due("fold along x", "4 / .", cells(store, 1));
            store = holding("1 . . / . . .", was.substring(0, 3));
            store.coarse(0, 2, 1);
            due("coarse", "1 .", cells(store, 1));
        }
        String[] shapes = {"1 . 2 . 3", "1 / . / 2 / . / 3", "1"};
        for (String shape : shapes) {
            GridStore store = holding(shape, shape.replaceAll("[^ /]", "."), shape.replaceAll("[^ /]", "9"));
            store.keep(1);
            store.slide(0, 0, 1);
            store.join(0, 0, 2, 2);
            due("slide, the last cell, too", shape, cells(store, 1));
            due("join, the last cell, too", shape, cells(store, 2));
            due("back, each of them", shape.replaceAll("[^0-9]", "").length(), store.back(1, 0));
        }
    }

    private static void aheadOfTheAct() {
        sentence("all by what there was ahead of the act");
        GridStore store = holding("1 2 3 4 / 5 6 7 8", ". . . . / . . . .");
        due("slide", 8, store.slide(0, 1, 1));
        due("what is given stays", "1 2 3 4 / 5 6 7 8", cells(store, 0));
        due("sums of what was given", "14 24 30 22 / 14 24 30 22", cells(store, 1));
        due("once more, nothing changes", 0, store.slide(0, 1, 1));
        due("and back", 8, store.slide(1, 1, 0));
        due("sums of what was given", "76 136 152 104 / 76 136 152 104", cells(store, 0));
    }

    private static void slideRadius() {
        sentence("SLIDE by r (0 to 4)");
        State state = filled(11, 10, 1).then(s -> s.grid(11, 10));
        for (int r = 0; r <= 4; r++) {
            int side = 2 * r + 1;
            GridStore store = state.made();
            due("slide by " + r, 110, store.slide(0, r, 1));
            due("in the middle", side * side, store.get(1, 5, 5));
            due("in the first corner", (r + 1) * (r + 1), store.get(1, 0, 0));
            due("in the last corner", (r + 1) * (r + 1), store.get(1, 10, 9));
            due("at the rim", side * (r + 1), store.get(1, 5, 0));
            due("at the rim", side * (r + 1), store.get(1, 10, 5));
        }
        for (int r : new int[] {-1, 5, 9, 10, LEAST, MOST}) {
            unchanged("slide by " + r, state, WRONG, s -> s.slide(0, r, 1));
        }
        GridStore store = holding("1 . . . . . . . . 1", ". . . . . . . . . .");
        store.slide(0, 4, 1);
        due("by 4, and no further", "1 1 1 1 1 1 1 1 1 1", cells(store, 1));
        store.slide(0, 3, 1);
        due("by 3, and no further", "1 1 1 1 . . 1 1 1 1", cells(store, 1));
    }

    private static void slideCut() {
        sentence("the SUM around it of what is given (cut to its lowest 32 bits)");
        GridStore store = holding("2147483647 . 1 .", "-2147483648 . -1 .", "-2147483648 . -2147483648 .",
            ". . . .");
        int[] told = {LEAST, MOST, 0};
        for (int g = 0; g < 3; g++) {
            store.slide(g, 1, 3);
            due("just past 32 bits", told[g], store.get(3, 1, 0));
            due("is that number in sums, too", (long) told[g], store.sum(3, 1, 0, 0));
            due("slide again", 0, store.slide(g, 1, 3));
            due("is a number", false, store.hole(3, 1, 0));
        }
        GridStore within = holding("2147483646 . 1 .", ". . . .");
        within.slide(0, 1, 1);
        due("just within 32 bits", MOST, within.get(1, 1, 0));
        GridStore much = filled(9, 9, MOST).then(s -> s.grid(9, 9)).made();
        much.slide(0, 4, 1);
        due("81 of the greatest", 2147483567, much.get(1, 4, 4));
    }

    private static void slideHoles() {
        sentence("a HOLE, if HOW MANY is 0");
        GridStore store = holding("0 . . . 1 -1", "7 7 7 7 7 7");
        store.slide(0, 0, 1);
        due("by 0", "0 . . . 1 -1", cells(store, 1));
        store.slide(0, 1, 1);
        due("by 1, sums of 0 are no holes", "0 0 . 1 0 0", cells(store, 1));
        due("by 2, the last hole gets a number", 2, store.slide(0, 2, 1));
        due("by 2", "0 0 1 0 0 0", cells(store, 1));
        GridStore holes = holding(". . .", "1 . 2");
        due("of holes alone", 2, holes.slide(0, 4, 1));
        due("of holes alone", ". . .", cells(holes, 1));
    }

    private static void foldAlongX() {
        sentence("FOLD along x: one CELL wide: the sum of the row, a HOLE without numbers");
        GridStore store = holding("1 . 2 / . . . / 5 -5 . / . . -7", "9 / 9 / 9 / 9");
        due("fold", 4, store.fold(0, false, 1));
        due("rows", "3 / . / 0 / -7", cells(store, 1));
        due("once more", 0, store.fold(0, false, 1));
        State state = filled(48, 2, 1).then(s -> s.grid(1, 2));
        GridStore wide = state.made();
        wide.fold(0, false, 1);
        due("the widest row", "48 / 48", cells(wide, 1));
        unchanged("along y into a column", state, WRONG, s -> s.fold(0, true, 1));
        unchanged("of a column of other rows", filled(3, 3, 1).then(s -> s.grid(1, 2)), WRONG,
            s -> s.fold(0, false, 1));
    }

    private static void foldAlongY() {
        sentence("along y: one CELL high, by columns");
        GridStore store = holding("1 . 5 . / . . -5 . / 2 . . -7", "9 9 9 9");
        due("fold", 4, store.fold(0, true, 1));
        due("columns", "3 . 0 -7", cells(store, 1));
        due("once more", 0, store.fold(0, true, 1));
        State state = filled(2, 40, 1).then(s -> s.grid(2, 1));
        GridStore high = state.made();
        high.fold(0, true, 1);
        due("the highest column", "40 40", cells(high, 1));
        unchanged("along x into a row", state, WRONG, s -> s.fold(0, false, 1));
        unchanged("of a row of other columns", filled(3, 3, 1).then(s -> s.grid(2, 1)), WRONG,
            s -> s.fold(0, true, 1));
        GridStore turned = filled(48, 2, 1).then(s -> s.view(0, 0, 0, 48, 2, 1, false), s -> s.grid(2, 1)).made();
        turned.fold(100, true, 1);
        due("a turned view's columns of 48", "48 48", cells(turned, 1));
    }

    private static void foldGoesRound() {
        sentence("the sum of the row (32 bits, going round)");
        GridStore store = holding("2147483647 1 / 2147483646 1 / -2147483648 -1 / -2147483648 -2147483648",
            ". / . / . / .", ". .");
        store.fold(0, false, 1);
        due("rows", "-2147483648 / 2147483647 / 2147483647 / 0", cells(store, 1));
        store.fold(0, true, 2);
        due("columns", "-3 -2147483647", cells(store, 2));
        due("in sums, too", -2147483650L, store.sum(2, 0, 0, 1));
        due("rows, in sums, too", -1L, store.sum(1, 0, 0, 1));
        due("fold again", 0, store.fold(0, false, 1) + store.fold(0, true, 2));
    }

    private static void joinAlike() {
        sentence("JOIN of two (alike in size)");
        State state = new State(s -> addGrid(s, "1 2 3 / 4 5 6"), s -> addGrid(s, "1 1 / 1 1 / 1 1"),
            s -> addGrid(s, "1 1 1"), s -> addGrid(s, "1 1 / 1 1"), s -> addGrid(s, "1 1 1 1 / 1 1 1 1"),
            s -> addGrid(s, ". . . / . . ."), s -> addGrid(s, "1 1 1 / 1 1 1 / 1 1 1"),
            s -> s.view(1, 0, 0, 2, 3, 1, false), s -> s.view(6, 0, 1, 3, 2, 0, false));
        for (int how = 0; how < 4; how++) {
            int asked = how;
            for (int other : new int[] {1, 2, 3, 4, 6}) {
                unchanged("join with " + other, state, WRONG, s -> s.join(0, other, asked, 5));
                unchanged("join of " + other, state, WRONG, s -> s.join(other, 0, asked, 5));
                unchanged("join of both " + other, state, WRONG, s -> s.join(other, other, asked, 5));
            }
            for (int other : new int[] {0, 100, 101}) {
                due("join with " + other, how == 3 ? 0 : 6, state.made().join(0, other, how, 5));
                due("join of " + other, how == 3 ? 0 : 6, state.made().join(other, 0, how, 5));
            }
        }
    }

    private static void joinHow() {
        sentence("how is not 0 to 3");
        State state = new State(s -> addGrid(s, "1 . 2 ."), s -> addGrid(s, "4 5 . ."), s -> addGrid(s, "9 9 9 9"));
        String[] told = {"5 5 2 .", "1 . . .", "1 5 2 .", ". . 2 ."};
        for (int how = 0; how < 4; how++) {
            GridStore store = state.made();
            due("join " + how, 4, store.join(0, 1, how, 2));
            due("join " + how, told[how], cells(store, 2));
        }
        for (int how : new int[] {-1, 4, 5, LEAST, MOST}) {
            unchanged("join " + how, state, WRONG, s -> s.join(0, 1, how, 2));
        }
    }

    private static void needJoin(int how, String first, String second, String want) {
        GridStore store = holding(first, second, first.replaceAll("[^ /]+", "9"), first.replaceAll("[^ /]+", "."));
        store.join(0, 1, how, 2);
        due(first + " and " + second, want, cells(store, 2));
        long sum = 0;
        for (String number : want.split(" ")) {
            sum += number.equals(".") ? 0 : Long.parseLong(number);
        }
        due("in sums, too", sum, store.sum(2, 0, 0, 9));
        due(first + " and " + second + " again", 0, store.join(0, 1, how, 2));
        store.join(0, 1, how, 3);
        due(first + " and " + second + " into holes", want, cells(store, 3));
        due("what is given stays", first + " and " + second, cells(store, 0) + " and " + cells(store, 1));
    }

    private static void joinSum() {
        sentence("0 the sum (32 bits) where both have numbers, else the one that has, else a HOLE");
        needJoin(0, "2147483647 -2147483648 2147483646 0 5 . 0", "1 -1 1 0 . 6 .",
            "-2147483648 2147483647 2147483647 0 5 6 0");
        needJoin(0, ". -2147483648 3 .", ". -2147483648 -3 0", ". 0 0 0");
    }

    private static void joinLesser() {
        sentence("1 the lesser, where both have, else a HOLE");
        needJoin(1, "2147483647 -2147483648 0 -1 5 4 . 3 .", "-2147483648 2147483647 -1 0 5 5 3 . .",
            "-2147483648 -2147483648 -1 -1 5 4 . . .");
    }

    private static void joinFirstElseSecond() {
        sentence("2 the first one's, else the second one's");
        needJoin(2, "1 . 0 . 5 .", "2 2 3 0 . .", "1 2 0 0 5 .");
    }

    private static void joinWhereSecondIsHole() {
        sentence("3 the first one's where the second one is a HOLE, else a HOLE");
        needJoin(3, "1 . 0 . 5 0", "2 2 . . . 0", ". . 0 . 5 .");
    }

    private static void coarseBy() {
        sentence("COARSE by k (2 to 8)");
        State state = filled(16, 16, 3);
        for (int k = 2; k <= 8; k++) {
            int asked = k;
            int side = (16 + k - 1) / k;
            GridStore store = state.then(s -> s.grid(side, side)).made();
            due("coarse by " + k, side * side, store.coarse(0, asked, 1));
            due("is flat, as are the four that were given", 5, store.count(6));
        }
        for (int k : new int[] {1, 0, -1, -2, 9, 10, 16, LEAST, MOST}) {
            for (int side : new int[] {1, 2, 16}) {
                unchanged("coarse by " + k, state.then(s -> s.grid(side, side)), WRONG, s -> s.coarse(0, k, 1));
            }
        }
    }

    private static void coarseSize() {
        sentence("as wide and high as what is given by k, rounded up");
        int[][] sizes = {{1, 8, 1}, {7, 8, 1}, {8, 8, 1}, {9, 8, 2}, {16, 8, 2}, {17, 8, 3}, {39, 8, 5}, {40, 8, 5},
            {40, 3, 14}, {39, 3, 13}, {1, 2, 1}, {2, 2, 1}, {3, 2, 2}, {4, 2, 2}, {40, 7, 6}, {6, 7, 1}, {36, 6, 6},
            {37, 6, 7}};
        for (int[] size : sizes) {
            String act = size[0] + " cells by " + size[1];
            State wide = new State(s -> s.grid(size[0], 1), s -> s.fill(0, 0, 0, size[0], 1, 4));
            State high = new State(s -> s.grid(1, size[0]), s -> s.fill(0, 0, 0, 1, size[0], 4));
            due(act, size[2], wide.then(s -> s.grid(size[2], 1)).made().coarse(0, size[1], 1));
            due(act + ", high", size[2], high.then(s -> s.grid(1, size[2])).made().coarse(0, size[1], 1));
            unchanged(act + " into one more", wide.then(s -> s.grid(size[2] + 1, 1)), WRONG,
                s -> s.coarse(0, size[1], 1));
            unchanged(act + ", high, into one more", high.then(s -> s.grid(1, size[2] + 1)), WRONG,
                s -> s.coarse(0, size[1], 1));
            if (size[2] > 1) {
                unchanged(act + " into one less", wide.then(s -> s.grid(size[2] - 1, 1)), WRONG,
                    s -> s.coarse(0, size[1], 1));
                unchanged(act + ", high, into one less", high.then(s -> s.grid(1, size[2] - 1)), WRONG,
                    s -> s.coarse(0, size[1], 1));
            }
        }
        GridStore store = filled(48, 40, 2).then(s -> s.grid(24, 20), s -> s.grid(6, 5)).made();
        due("the greatest grid by 2", 480, store.coarse(0, 2, 1));
        due("the greatest grid by 8", 30, store.coarse(0, 8, 2));
    }

    private static void coarseRims() {
        sentence("the CELLS of each k x k (fewer at the rims): the sum of their numbers by how many have them");
        GridStore store = holding("1 3 10 20 7 / 5 7 30 40 9 / 2 . . . 11", "0 0 0 / 0 0 0", "0 0 / 0 0", "0");
        due("by 2", 6, store.coarse(0, 2, 1));
        due("by 2", "4 25 8 / 2 . 11", cells(store, 1));
        GridStore threes = holding("1 3 10 20 7 / 5 7 30 40 9 / 2 . . . 11 / 6 . . . 15", "0 0 / 0 0", "0 0");
        due("by 3", 4, threes.coarse(0, 3, 1));
        due("by 3, 58 by 7, 87 by 5, 6, 15", "8 17 / 6 15", cells(threes, 1));
        due("by 4", 2, threes.coarse(0, 4, 2));
        due("by 4, 124 by 10, 42 by 4", "12 10", cells(threes, 2));
        due("by 8", 1, store.coarse(0, 8, 3));
        due("by 8, 145 by 12", "12", cells(store, 3));
    }

    private static void coarseRoundedDown() {
        sentence("rounded down (to what is less)");
        int[][] told = {{3, 4, 3}, {-3, -4, -4}, {0, 1, 0}, {0, -1, -1}, {-1, -1, -1}, {-1, 0, -1}, {-1, 1, 0},
            {-2, 1, -1}, {5, 5, 5}, {MOST, MOST, MOST}, {LEAST, LEAST, LEAST}, {MOST, LEAST, -1}, {LEAST, MOST, -1},
            {MOST, MOST - 1, MOST - 1}, {LEAST, LEAST + 1, LEAST}, {MOST, 1, 1 << 30}, {LEAST, -1, -(1 << 30) - 1}};
        for (int[] one : told) {
            GridStore store = new GridStore();
            store.grid(2, 1);
            store.grid(1, 1);
            store.set(0, 0, 0, one[0]);
            store.set(0, 1, 0, one[1]);
            store.coarse(0, 2, 1);
            due("of " + one[0] + " and " + one[1], one[2], store.get(1, 0, 0));
        }
        GridStore thirds = holding("1 0 0", "-1 0 0", "1 1 0", "-1 -1 0", "-7 . .", ".");
        int[] means = {0, -1, 0, -1, -7};
        for (int g = 0; g < means.length; g++) {
            thirds.coarse(g, 3, 5);
            due("of " + cells(thirds, g), means[g], thirds.get(5, 0, 0));
        }
        GridStore all = filled(8, 8, MOST).then(s -> s.grid(1, 1)).made();
        all.coarse(0, 8, 1);
        due("of 64 of the greatest", MOST, all.get(1, 0, 0));
        all.set(0, 0, 0, MOST - 1);
        all.coarse(0, 8, 1);
        due("of 64, one of them less by 1", MOST - 1, all.get(1, 0, 0));
    }

    private static void coarseHoles() {
        sentence("a HOLE without numbers");
        GridStore store = holding(". . 0 . / . . . .", "5 5");
        due("coarse", 2, store.coarse(0, 2, 1));
        due("a hole, and a 0", ". 0", cells(store, 1));
        store.set(0, 1, 1, -9);
        due("with one number", 1, store.coarse(0, 2, 1));
        due("is its mean", "-9 0", cells(store, 1));
    }

    private static void cellsChanged() {
        sentence("An act tells how many CELLS it changed (a number into another one, into a HOLE, or back)");
        String from = "1 2 . . 0 .";
        String[] into = {from, "2 2 . . 0 .", ". 2 . . 0 .", "1 2 7 . 0 .", "2 . 3 . . 0", ". . . . . ."};
        int[] changed = {0, 1, 1, 1, 5, 3};
        for (int i = 0; i < into.length; i++) {
            due("slide into " + into[i], changed[i], holding(from, into[i]).slide(0, 0, 1));
            due("join into " + into[i], changed[i], holding(from, into[i]).join(0, 0, 2, 1));
            due("fold into " + into[i], changed[i], holding(from, into[i]).fold(0, true, 1));
            GridStore store = holding(into[i], from);
            store.keep(0);
            store.slide(1, 0, 0);
            due("back to " + into[i], changed[i], store.back(0, 0));
            due("back once more", 0, store.back(0, 0));
        }
        GridStore fold = holding("1 / . / 0", ". / . / .");
        due("fold along x", 2, fold.fold(0, false, 1));
        GridStore coarse = holding("1 1 . . 0 .", "0 . .", "1 9 .");
        due("coarse, a number for a hole and another number", 2, coarse.coarse(0, 2, 1));
        due("coarse, a hole and a number for a hole", 2, coarse.coarse(0, 2, 2));
        due("fill of holes and numbers", 5, holding(". 3 4 3 . 0 7").fill(0, 0, 0, 7, 1, 3));
    }

    private static void readPieces() {
        sentence("READ: how many PIECES of its GRID an act on a rectangle has to look at: those with a CELL of it");
        State state = new State(s -> s.grid(48, 40));
        int[][] told = {{0, 0, 1, 1, 1}, {7, 7, 1, 1, 1}, {7, 7, 2, 1, 2}, {7, 7, 1, 2, 2}, {7, 7, 2, 2, 4},
            {0, 0, 8, 8, 1}, {0, 0, 9, 8, 2}, {0, 0, 8, 9, 2}, {1, 0, 8, 8, 2}, {0, 1, 8, 8, 2}, {8, 8, 8, 8, 1},
            {8, 8, 9, 9, 4}, {7, 0, 10, 1, 3}, {0, 7, 1, 10, 3}, {0, 0, 48, 40, 30}, {47, 39, 1, 1, 1},
            {39, 31, 9, 9, 4}, {40, 32, 8, 8, 1}, {0, 0, 48, 1, 6}, {0, 0, 1, 40, 5}};
        GridStore store = state.made();
        store.view(0, 0, 0, 48, 40, 1, false);
        store.view(0, 0, 0, 48, 40, 2, true);
        for (int[] r : told) {
            String what = "(" + r[0] + ", " + r[1] + "), " + r[2] + " x " + r[3];
            due("read of " + what, r[4], store.read(0, r[0], r[1], r[2], r[3]));
            due("read through a turned view", r[4], store.read(100, 40 - r[1] - r[3], r[0], r[3], r[2]));
            due("read through a turned and flipped view", r[4], store.read(101, r[0], 40 - r[1] - r[3], r[2], r[3]));
        }
        store.view(0, 5, 6, 10, 10, 0, false);
        due("by the grid's pieces, not the view's cells", 4, store.read(102, 0, 0, 8, 8));
        due("within one piece", 1, store.read(102, 3, 2, 7, 8));
        due("over a rim", 2, store.read(102, 2, 2, 2, 8));
        store.lose(0, true);
        store.lose(1, true);
        due("lost pieces are looked at", 30, store.read(0, 0, 0, 48, 40));
        unchanged("a read changes nothing", state, 30, s -> s.read(0, 0, 0, 48, 40));
    }

    private static void severalExceptions() {
        sentence("Of several exceptions the one told first is thrown; a call that throws changes nothing");
        State state = forActs().then(s -> s.close(1, true));
        State full = state.then(s -> s.grid(1, 1), s -> s.grid(1, 1), s -> s.grid(1, 1));
        for (int v = 7; v < 12; v++) {
            full = full.then(s -> s.view(0, 0, 0, 1, 1, 0, false));
        }
        unchanged("grid: no size, and 8", full, WRONG, s -> s.grid(0, 41));
        unchanged("grid: 8", full, TOO_MANY, s -> s.grid(1, 1));
        unchanged("view: of nothing, no rectangle, no quarters, and 12", full, NO_SUCH_PLACE,
            s -> s.view(8, 0, 0, 0, 0, 4, false));
        unchanged("view: no rectangle, and 12", full, WRONG, s -> s.view(0, 0, 0, 0, 1, 0, false));
        unchanged("view: no quarters, and 12", full, WRONG, s -> s.view(0, 0, 0, 1, 1, 4, false));
        unchanged("view: 12", full, TOO_MANY, s -> s.view(0, 0, 0, 1, 1, 3, false));
        unchanged("fill: of nothing, no rectangle", state, NO_SUCH_PLACE, s -> s.fill(5, 0, 0, 0, 0, 1));
        unchanged("fill: no rectangle, through a closed view", state, WRONG, s -> s.fill(101, 0, 0, 0, 1, 1));
        unchanged("read: of nothing, no rectangle", state, NO_SUCH_PLACE, s -> s.read(107, 0, 0, 0, 0));
        unchanged("set: no cell, through a closed view", state, NO_SUCH_PLACE, s -> s.set(101, 4, 0, 1));
        unchanged("dig: no cell, through a closed view", state, NO_SUCH_PLACE, s -> s.dig(101, 0, 4));
        unchanged("sum: of nothing, by none", state, NO_SUCH_PLACE, s -> s.sum(5, 0, 0, 10));
        unchanged("sum: around no cell, by none", state, NO_SUCH_PLACE, s -> s.sum(0, 4, 0, 10));
        unchanged("many: of nothing, by none", state, NO_SUCH_PLACE, s -> s.many(107, 0, 0, -1));
        unchanged("many: around no cell, by none", state, NO_SUCH_PLACE, s -> s.many(0, 0, 4, -1));
        unchanged("slide: of nothing, by none", state, NO_SUCH_PLACE, s -> s.slide(5, 5, 1));
        unchanged("slide: into nothing, by none", state, NO_SUCH_PLACE, s -> s.slide(0, 5, 5));
        unchanged("slide: into nothing, of none", state, NO_SUCH_PLACE, s -> s.slide(107, 0, 100));
        unchanged("slide: by none, of itself", state, WRONG, s -> s.slide(1, 5, 1));
        unchanged("fold: of nothing, into a wrong size", state, NO_SUCH_PLACE, s -> s.fold(5, true, 1));
        unchanged("fold: into nothing", state, NO_SUCH_PLACE, s -> s.fold(0, true, 5));
        unchanged("join: of nothing, no how", state, NO_SUCH_PLACE, s -> s.join(5, 0, 4, 1));
        unchanged("join: with nothing, no how", state, NO_SUCH_PLACE, s -> s.join(0, 5, 4, 1));
        unchanged("join: into nothing, no how", state, NO_SUCH_PLACE, s -> s.join(0, 0, 4, 5));
        unchanged("join: with nothing, of itself", state, NO_SUCH_PLACE, s -> s.join(1, 5, 0, 1));
        unchanged("join: into nothing, of unlike sizes", state, NO_SUCH_PLACE, s -> s.join(0, 2, 0, 104));
        unchanged("coarse: of nothing, by none", state, NO_SUCH_PLACE, s -> s.coarse(5, 1, 4));
        unchanged("coarse: into nothing, by none", state, NO_SUCH_PLACE, s -> s.coarse(0, 9, 104));
        unchanged("was: no layer, and no cell", state, NO_SUCH_PLACE, s -> s.was(0, 1, 4, 4));
        unchanged("was: no cell, where there is no number", state, NO_SUCH_PLACE, s -> s.was(0, 0, 4, 2));
        unchanged("was: a hole", state, NO_NUMBER, s -> s.was(0, 0, 0, 2));
        unchanged("get: no cell", state, NO_SUCH_PLACE, s -> s.get(0, 0, 4));
        unchanged("get: a hole", state, NO_NUMBER, s -> s.get(0, 0, 2));
    }
}
