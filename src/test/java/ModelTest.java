import java.util.ArrayList;
import java.util.Arrays;
import java.util.HashSet;
import java.util.List;
import java.util.NoSuchElementException;
import java.util.Objects;
import java.util.Set;

/**
 * Long runs of calls, drawn by a fixed rule, answered by GridStore and by a plain model of the document that
 * holds its grids in lists, asks views through the views that they are of, and copies what an act is given.
 */
public final class ModelTest {
    private static final int RUNS = 1000;
    private static final int CALLS = 512;
    /** The last calls of a run look at cells alone, so that what it wrote is seen. */
    private static final int FIRST_LOOK = 400;
    private static final int GRID = 1;
    private static final int GET = 9;
    private static final int COUNT = 24;

    private static long seed = 1;

    private static int below(int bound) {
        seed = seed * 6364136223846793005L + 1442695040888963407L;
        return (int) ((seed >>> 33) % bound);
    }

    public static void main(String[] args) {
        int wrong = 0;
        long[] thrown = new long[COUNT + 1];
        long[] answered = new long[COUNT + 1];
        for (int run = 0; run < RUNS && wrong == 0; run++) {
            seed = run + 1;
            wrong += runOf(run, answered, thrown);
        }
        for (int name = 1; name <= COUNT; name++) {
            if (wrong == 0 && (answered[name] < 1000 || thrown[name] < 250 && name != COUNT)) {
                System.out.println("too few calls " + name + ": " + answered[name] + " were answered, "
                    + thrown[name] + " threw");
                wrong++;
            }
        }
        System.out.println("ModelTest: " + RUNS + " runs of " + CALLS + " calls, " + wrong + " wrong");
        if (wrong != 0) {
            System.exit(1);
        }
    }

    private static int runOf(int run, long[] answered, long[] thrown) {
        GridStore store = new GridStore();
        Model model = new Model();
        int greatest = run % 3 == 0 ? 48 : run % 3 == 1 ? 12 : 4;
        for (int call = 0; call < CALLS; call++) {
            int name = call < 6 ? GRID : call < FIRST_LOOK ? drawnName() : GET;
            int[] a = drawnArguments(name, model, greatest);
            Object got = answerOf(() -> ofStore(store, name, a));
            Object want = answerOf(() -> ofModel(model, name, a));
            if (want instanceof String) {
                thrown[name]++;
            } else {
                answered[name]++;
            }
            if (!want.equals(got)) {
                System.out.println("run " + run + ", call " + call + " of " + name + Arrays.toString(a)
                    + " answered " + got + ", due is " + want);
                return 1;
            }
        }
        return 0;
    }

    private static int drawnName() {
        int name = below(COUNT) + 1;
        // hosts lost too often would leave nothing to see
        return name == 15 && below(4) != 0 ? 7 : name;
    }

    /** Mostly arguments that mean something, so that calls get behind the exceptions. */
    private static int[] drawnArguments(int name, Model model, int greatest) {
        int of = below(3) == 0 && !model.views.isEmpty() ? 100 + below(model.views.size())
            : below(Math.max(1, model.grids.size()));
        if (below(40) == 0) {
            of = new int[] {-1, 8, 99, 100 + model.views.size(), model.grids.size(), 112}[below(6)];
        }
        if (name >= 10 && name <= 14 && of >= 100 && below(20) != 0) {
            of = below(Math.max(1, model.grids.size()));
        }
        boolean there = model.has(of);
        int layers = of >= 0 && of < model.grids.size() ? model.grids.get(of).layers.size() : 0;
        int wide = there ? model.wide(of) : 5;
        int high = there ? model.high(of) : 5;
        switch (name) {
            case 1:
                return new int[] {below(greatest) + (below(30) == 0 ? 10 : 1),
                    1 + below(Math.min(greatest, 40)) - (below(60) == 0 ? 1 : 0)};
            case 2: {
                int[] r = rectangle(wide, high);
                return new int[] {of, r[0], r[1], r[2], r[3], below(21) == 0 ? 4 : below(4), below(2)};
            }
            case 3:
                return new int[] {below(Math.max(1, model.views.size() + 1)), below(3) == 0 ? 1 : 0};
            case 4:
                return new int[] {of, below(2)};
            case 5:
                return new int[] {of, coordinate(wide), coordinate(high), number()};
            case 6: case 8: case 9:
                return new int[] {of, coordinate(wide), coordinate(high)};
            case 7: case 23: {
                int[] r = rectangle(wide, high);
                return new int[] {of, r[0], r[1], r[2], r[3], number()};
            }
            case 10:
                return new int[] {of, below((wide + 15) / 8), below((high + 15) / 8)};
            case 11: case 18:
                return new int[] {of, number()};
            case 12:
                return new int[] {of, below(layers + 1) - (below(20) == 0 ? 1 : 0)};
            case 13:
                return new int[] {of, below(layers + 1), coordinate(wide), coordinate(high)};
            case 14:
                return new int[] {of, below(layers + 2) - 1, below(layers + 1) - 1};
            case 15:
                return new int[] {below(6), below(3) == 0 ? 1 : 0};
            case 16: case 17:
                return new int[] {of, coordinate(wide), coordinate(high), below(10) + (below(20) == 0 ? 1 : 0)};
            case 24:
                return new int[] {below(11) - 1};
            default:
                return actArguments(name, model, of);
        }
    }

    private static int[] actArguments(int name, Model model, int of) {
        int other = of;
        int argument = name == 19 ? below(5) + (below(20) == 0 ? 1 : 0) : name == 20 ? below(2)
            : name == 21 ? below(4) + (below(20) == 0 ? 1 : 0) : below(8) + 1;
        for (int tries = 0; tries < 200; tries++) {
            int into = below(Math.max(1, model.grids.size()));
            other = below(2) == 0 && !model.views.isEmpty() ? 100 + below(model.views.size()) : of;
            int[] drawn = name == 21 ? new int[] {of, other, argument, into} : new int[] {of, argument, into};
            if (tries == 199 || fits(name, model, drawn)) {
                return drawn;
            }
            of = below(2) == 0 && !model.views.isEmpty() ? 100 + below(model.views.size())
                : below(Math.max(1, model.grids.size()));
        }
        return new int[4];
    }

    private static boolean fits(int name, Model model, int[] drawn) {
        Object told = answerOf(() -> model.came(name, drawn));
        return Boolean.TRUE.equals(told);
    }

    private static int coordinate(int bound) {
        return below(40) == 0 ? (below(2) == 0 ? -1 : bound) : below(bound);
    }

    private static int[] rectangle(int wide, int high) {
        int x = below(wide);
        int y = below(high);
        if (below(3) == 0) {
            x = 0;
            y = 0;
        }
        int w = below(3) == 0 ? wide - x : 1 + below(wide - x);
        int h = below(3) == 0 ? high - y : 1 + below(high - y);
        switch (below(60)) {
            case 0: return new int[] {x, y, wide - x + 1, h};
            case 1: return new int[] {x, y, w, high - y + 1};
            case 2: return new int[] {x, y, 0, h};
            case 3: return new int[] {-1, y, w, h};
            default: return new int[] {x, y, w, h};
        }
    }

    private static int number() {
        switch (below(6)) {
            case 0: return Integer.MAX_VALUE - below(3);
            case 1: return Integer.MIN_VALUE + below(3);
            case 2: return below(2000000) - 1000000;
            default: return below(7) - 3;
        }
    }

    private interface Call {
        Object answer();
    }

    private static Object answerOf(Call call) {
        try {
            return call.answer();
        } catch (IndexOutOfBoundsException | IllegalArgumentException | UnsupportedOperationException
                | NoSuchElementException e) {
            return e.getClass().getName();
        }
    }

    private static Object ofStore(GridStore s, int name, int[] a) {
        switch (name) {
            case 1: return s.grid(a[0], a[1]);
            case 2: return s.view(a[0], a[1], a[2], a[3], a[4], a[5], a[6] == 1);
            case 3: return s.close(a[0], a[1] == 1);
            case 4: return s.size(a[0], a[1] == 1);
            case 5: return s.set(a[0], a[1], a[2], a[3]);
            case 6: return s.dig(a[0], a[1], a[2]);
            case 7: return s.fill(a[0], a[1], a[2], a[3], a[4], a[5]);
            case 8: return s.hole(a[0], a[1], a[2]);
            case 9: return s.get(a[0], a[1], a[2]);
            case 10: return s.kind(a[0], a[1], a[2]);
            case 11: return s.keep(a[0]);
            case 12: return s.back(a[0], a[1]);
            case 13: return s.was(a[0], a[1], a[2], a[3]);
            case 14: return s.differ(a[0], a[1], a[2]);
            case 15: return s.lose(a[0], a[1] == 1);
            case 16: return s.sum(a[0], a[1], a[2], a[3]);
            case 17: return s.many(a[0], a[1], a[2], a[3]);
            case 18: return s.find(a[0], a[1]);
            case 19: return s.slide(a[0], a[1], a[2]);
            case 20: return s.fold(a[0], a[1] == 1, a[2]);
            case 21: return s.join(a[0], a[1], a[2], a[3]);
            case 22: return s.coarse(a[0], a[1], a[2]);
            case 23: return s.read(a[0], a[1], a[2], a[3], a[4]);
            default: return s.count(a[0]);
        }
    }

    private static Object ofModel(Model m, int name, int[] a) {
        switch (name) {
            case 1: return m.newGrid(a[0], a[1]);
            case 2: return m.newView(a);
            case 3: return m.close(a[0], a[1] == 1);
            case 4: m.must(a[0]); return a[1] == 1 ? m.high(a[0]) : m.wide(a[0]);
            case 5: return m.set(a[0], a[1], a[2], a[3]);
            case 6: return m.dig(a[0], a[1], a[2]);
            case 7: return m.fill(a);
            case 8: return m.cell(a[0], a[1], a[2]) == null;
            case 9: return Model.number(m.cell(a[0], a[1], a[2]));
            case 10: return m.kind(m.grid(a[0]), a[1], a[2]);
            case 11: return m.keep(m.grid(a[0]));
            case 12: return m.write(m.grid(a[0]), Model.layer(m.grid(a[0]), a[1]));
            case 13: return Model.was(Model.layer(m.grid(a[0]), a[1]), a[2], a[3]);
            case 14: return m.differ(m.grid(a[0]), a[1], a[2]);
            case 15: return m.lose(a[0], a[1] == 1);
            case 16: return m.around(a)[0];
            case 17: return (int) m.around(a)[1];
            case 18: return m.find(a[0], a[1]);
            case 19: case 20: case 21: case 22: m.came(name, a);
                return m.write(m.grid(a[a.length - 1]), m.act(name, a));
            case 23: return m.read(a);
            default: return m.count(a[0]);
        }
    }

    /** A grid of the model: rows of numbers, null a hole. */
    private static final class Plain {
        Integer[][] rows;
        final List<Integer[][]> layers = new ArrayList<>();

        Plain(int wide, int high) {
            rows = new Integer[high][wide];
        }
    }

    private static final class Shown {
        int of;
        int[] rectangle;
        int quarters;
        boolean flipped;
        boolean closed;
    }

    private static final class Model {
        final List<Plain> grids = new ArrayList<>();
        final List<Shown> views = new ArrayList<>();
        final boolean[] lost = new boolean[5];

        boolean has(int of) {
            return of >= 0 && of < grids.size() || of >= 100 && of < 100 + views.size();
        }

        void must(int of) {
            if (!has(of)) {
                throw new IndexOutOfBoundsException();
            }
        }

        Plain grid(int number) {
            if (number < 0 || number >= grids.size()) {
                throw new IndexOutOfBoundsException();
            }
            return grids.get(number);
        }

        int wide(int of) {
            if (of < 100) {
                return grids.get(of).rows[0].length;
            }
            Shown view = views.get(of - 100);
            return view.rectangle[2 + view.quarters % 2];
        }

        int high(int of) {
            if (of < 100) {
                return grids.get(of).rows.length;
            }
            Shown view = views.get(of - 100);
            return view.rectangle[3 - view.quarters % 2];
        }

        int gridOf(int of) {
            return of < 100 ? of : gridOf(views.get(of - 100).of);
        }

        /** Where a cell lies in the grid: asked of one view after the other. */
        int[] place(int of, int u, int v) {
            if (of < 100) {
                return new int[] {u, v};
            }
            Shown view = views.get(of - 100);
            int x = view.flipped ? wide(of) - 1 - u : u;
            int y = v;
            for (int turn = view.quarters; turn > 0; turn--) {
                int highBefore = view.rectangle[3 - (turn - 1) % 2];
                int before = x;
                x = y;
                y = highBefore - 1 - before;
            }
            return place(view.of, view.rectangle[0] + x, view.rectangle[1] + y);
        }

        void mustCell(int of, int x, int y) {
            must(of);
            if (x < 0 || y < 0 || x >= wide(of) || y >= high(of)) {
                throw new IndexOutOfBoundsException();
            }
        }

        Integer cell(int of, int x, int y) {
            mustCell(of, x, y);
            int[] place = place(of, x, y);
            return grids.get(gridOf(of)).rows[place[1]][place[0]];
        }

        static int number(Integer cell) {
            if (cell == null) {
                throw new NoSuchElementException();
            }
            return cell;
        }

        Object newGrid(int wide, int high) {
            if (wide < 1 || wide > 48 || high < 1 || high > 40) {
                throw new IllegalArgumentException();
            }
            if (grids.size() == 8) {
                throw new UnsupportedOperationException();
            }
            grids.add(new Plain(wide, high));
            return grids.size() - 1;
        }

        void mustRectangle(int[] a) {
            must(a[0]);
            if (a[1] < 0 || a[2] < 0 || a[3] < 1 || a[4] < 1 || a[1] + a[3] > wide(a[0])
                    || a[2] + a[4] > high(a[0])) {
                throw new IllegalArgumentException();
            }
        }

        Object newView(int[] a) {
            mustRectangle(a);
            if (a[5] < 0 || a[5] > 3) {
                throw new IllegalArgumentException();
            }
            if (views.size() == 12) {
                throw new UnsupportedOperationException();
            }
            Shown view = new Shown();
            view.of = a[0];
            view.rectangle = new int[] {a[1], a[2], a[3], a[4]};
            view.quarters = a[5];
            view.flipped = a[6] == 1;
            views.add(view);
            return views.size() - 1;
        }

        Object close(int view, boolean is) {
            if (view < 0 || view >= views.size()) {
                throw new IndexOutOfBoundsException();
            }
            boolean was = views.get(view).closed;
            views.get(view).closed = is;
            return was != is;
        }

        boolean writable(int x, int y) {
            int host = (x / 8 + y / 8) % 5;
            return !(lost[host] && lost[host == 4 ? 0 : host + 1]);
        }

        boolean open(int of) {
            return of < 100 || !views.get(of - 100).closed;
        }

        Object set(int of, int x, int y, int v) {
            mustCell(of, x, y);
            int[] place = place(of, x, y);
            if (!open(of) || !writable(place[0], place[1])) {
                return false;
            }
            grids.get(gridOf(of)).rows[place[1]][place[0]] = v;
            return true;
        }

        Object dig(int of, int x, int y) {
            if (cell(of, x, y) == null || !open(of)) {
                return false;
            }
            int[] place = place(of, x, y);
            grids.get(gridOf(of)).rows[place[1]][place[0]] = null;
            return true;
        }

        Object fill(int[] a) {
            mustRectangle(a);
            int changed = 0;
            for (int x = a[1]; x < a[1] + a[3]; x++) {
                for (int y = a[2]; y < a[2] + a[4]; y++) {
                    Integer before = cell(a[0], x, y);
                    if (Boolean.TRUE.equals(set(a[0], x, y, a[5])) && (before == null || before != a[5])) {
                        changed++;
                    }
                }
            }
            return changed;
        }

        int kind(Plain grid, int p, int q) {
            int high = grid.rows.length;
            int wide = grid.rows[0].length;
            if (p < 0 || q < 0 || 8 * p >= wide || 8 * q >= high) {
                throw new IndexOutOfBoundsException();
            }
            List<Integer> numbers = new ArrayList<>();
            int cells = 0;
            for (int y = 0; y < high; y++) {
                for (int x = 0; x < wide; x++) {
                    if (x / 8 == p && y / 8 == q) {
                        cells++;
                        if (grid.rows[y][x] != null) {
                            numbers.add(grid.rows[y][x]);
                        }
                    }
                }
            }
            boolean one = numbers.size() == cells && numbers.stream().distinct().count() == 1;
            return numbers.isEmpty() ? 0 : one ? 1 : numbers.size() <= 12 ? 2 : 3;
        }

        static Integer[][] copy(Integer[][] rows) {
            Integer[][] copy = new Integer[rows.length][];
            for (int y = 0; y < rows.length; y++) {
                copy[y] = rows[y].clone();
            }
            return copy;
        }

        Object keep(Plain grid) {
            if (grid.layers.size() == 20) {
                return -1;
            }
            grid.layers.add(copy(grid.rows));
            return grid.layers.size() - 1;
        }

        static Integer[][] layer(Plain grid, int layer) {
            if (layer < 0 || layer >= grid.layers.size()) {
                throw new IndexOutOfBoundsException();
            }
            return grid.layers.get(layer);
        }

        static Object was(Integer[][] rows, int x, int y) {
            if (x < 0 || y < 0 || y >= rows.length || x >= rows[0].length) {
                throw new IndexOutOfBoundsException();
            }
            return number(rows[y][x]);
        }

        /** How many cells of a grid are changed by writing what is told, where it can be written. */
        int write(Plain grid, Integer[][] told) {
            Integer[][] before = copy(grid.rows);
            grid.rows = copy(told);
            bareLost(grid);
            int changed = 0;
            for (int y = 0; y < before.length; y++) {
                for (int x = 0; x < before[y].length; x++) {
                    changed += Objects.equals(before[y][x], grid.rows[y][x]) ? 0 : 1;
                }
            }
            return changed;
        }

        void bareLost(Plain grid) {
            for (int y = 0; y < grid.rows.length; y++) {
                for (int x = 0; x < grid.rows[y].length; x++) {
                    if (!writable(x, y)) {
                        grid.rows[y][x] = null;
                    }
                }
            }
        }

        Object differ(Plain grid, int a, int b) {
            Integer[][] first = a == -1 ? grid.rows : layer(grid, a);
            Integer[][] second = b == -1 ? grid.rows : layer(grid, b);
            Set<Integer> pieces = new HashSet<>();
            for (int y = 0; y < first.length; y++) {
                for (int x = 0; x < first[y].length; x++) {
                    if (!Objects.equals(first[y][x], second[y][x])) {
                        pieces.add(x / 8 + 10 * (y / 8));
                    }
                }
            }
            return pieces.size();
        }

        Object lose(int host, boolean is) {
            if (host < 0 || host > 4) {
                throw new IndexOutOfBoundsException();
            }
            boolean was = lost[host];
            lost[host] = is;
            for (Plain grid : grids) {
                bareLost(grid);
            }
            return was != is;
        }

        /** The sum of the numbers of a rectangle, as far as it has cells, and how many they are. */
        static long[] total(Integer[][] rows, int left, int top, int right, int bottom) {
            long[] total = new long[2];
            for (int y = 0; y < rows.length; y++) {
                for (int x = 0; x < rows[y].length; x++) {
                    if (x >= left && x <= right && y >= top && y <= bottom && rows[y][x] != null) {
                        total[0] += rows[y][x];
                        total[1]++;
                    }
                }
            }
            return total;
        }

        long[] around(int[] a) {
            mustCell(a[0], a[1], a[2]);
            int r = a[3];
            if (r < 0 || r > 9) {
                throw new IllegalArgumentException();
            }
            return total(told(a[0]), a[1] - r, a[2] - r, a[1] + r, a[2] + r);
        }

        /** A copy of what a grid or view tells. */
        Integer[][] told(int of) {
            must(of);
            Integer[][] rows = new Integer[high(of)][wide(of)];
            for (int y = 0; y < rows.length; y++) {
                for (int x = 0; x < rows[y].length; x++) {
                    rows[y][x] = cell(of, x, y);
                }
            }
            return rows;
        }

        Object find(int of, int v) {
            Integer[][] rows = told(of);
            for (int y = 0; y < rows.length; y++) {
                for (int x = 0; x < rows[y].length; x++) {
                    if (rows[y][x] != null && rows[y][x] >= v) {
                        return x + 100 * y;
                    }
                }
            }
            return -1;
        }

        /** True if the act can be done, else it throws what is due. */
        Object came(int name, int[] a) {
            int into = a[a.length - 1];
            must(a[0]);
            if (name == 21) {
                must(a[1]);
            }
            grid(into);
            int argument = a[a.length - 2];
            int wide = wide(a[0]);
            int high = high(a[0]);
            boolean well = gridOf(a[0]) != into;
            if (name == 19) {
                well &= argument >= 0 && argument <= 4;
            } else if (name == 20) {
                wide = argument == 1 ? wide : 1;
                high = argument == 1 ? 1 : high;
            } else if (name == 21) {
                well &= argument >= 0 && argument <= 3 && gridOf(a[1]) != into && wide(a[1]) == wide
                    && high(a[1]) == high;
            } else {
                well &= argument >= 2 && argument <= 8;
                wide = well ? wide / argument + (wide % argument == 0 ? 0 : 1) : 0;
                high = well ? high / argument + (high % argument == 0 ? 0 : 1) : 0;
            }
            if (!well || wide(into) != wide || high(into) != high) {
                throw new IllegalArgumentException();
            }
            return true;
        }

        Integer[][] act(int name, int[] a) {
            Integer[][] from = told(a[0]);
            int into = a[a.length - 1];
            int k = a[a.length - 2];
            Integer[][] rows = new Integer[high(into)][wide(into)];
            for (int y = 0; y < rows.length; y++) {
                for (int x = 0; x < rows[y].length; x++) {
                    rows[y][x] = name == 21 ? joined(from[y][x], cell(a[1], x, y), k)
                        : name == 19 ? sum(total(from, x - k, y - k, x + k, y + k))
                        : name == 22 ? mean(total(from, x * k, y * k, x * k + k - 1, y * k + k - 1))
                        : sum(k == 1 ? total(from, x, 0, x, 99) : total(from, 0, y, 99, y));
                }
            }
            return rows;
        }

        static Integer sum(long[] total) {
            return total[1] == 0 ? null : (Integer) (int) total[0];
        }

        static Integer mean(long[] total) {
            if (total[1] == 0) {
                return null;
            }
            long mean = total[0] / total[1];
            return (int) (mean * total[1] > total[0] ? mean - 1 : mean);
        }

        static Integer joined(Integer a, Integer b, int how) {
            if (how == 3) {
                return b == null ? a : null;
            }
            if (how == 1) {
                return a == null || b == null ? null : (Integer) Math.min(a, b);
            }
            return a == null ? b : b == null || how == 2 ? a : (Integer) (a + b);
        }

        Object read(int[] a) {
            mustRectangle(a);
            Set<Integer> pieces = new HashSet<>();
            for (int y = a[2]; y < a[2] + a[4]; y++) {
                for (int x = a[1]; x < a[1] + a[3]; x++) {
                    int[] place = place(a[0], x, y);
                    pieces.add(place[0] / 8 + 10 * (place[1] / 8));
                }
            }
            return pieces.size();
        }

        Object count(int what) {
            int[] counts = {grids.size(), views.size(), 0, 0, 0, 0, 0, 0, 0};
            for (boolean one : lost) {
                counts[3] += one ? 1 : 0;
            }
            for (Plain grid : grids) {
                counts[2] += grid.layers.size();
                counts[4] += (int) total(grid.rows, 0, 0, 99, 99)[1];
                for (int q = 0; 8 * q < grid.rows.length; q++) {
                    for (int p = 0; 8 * p < grid.rows[0].length; p++) {
                        counts[5 + kind(grid, p, q)]++;
                    }
                }
            }
            return what < 0 || what > 8 ? -1 : counts[what];
        }
    }
}
