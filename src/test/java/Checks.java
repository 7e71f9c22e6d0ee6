import java.util.List;
import java.util.NoSuchElementException;

/** What the tests of the document share: answers compared with those that are due, and grids written as texts. */
abstract class Checks {
    static final Class<?> NO_SUCH_PLACE = IndexOutOfBoundsException.class;
    static final Class<?> WRONG = IllegalArgumentException.class;
    static final Class<?> TOO_MANY = UnsupportedOperationException.class;
    static final Class<?> NO_NUMBER = NoSuchElementException.class;
    static final int LEAST = Integer.MIN_VALUE;
    static final int MOST = Integer.MAX_VALUE;

    private static int checks = 0;
    private static int wrong = 0;
    private static String told = "";

    interface Call {
        Object answer();
    }

    /** The sentence of the document that the checks from here on hold to. */
    static void sentence(String text) {
        told = "\"" + text + "\": ";
    }

    static void due(String what, Object want, Object got) {
        checks++;
        if (!want.equals(got)) {
            wrong++;
            System.out.println(told + what + " answered " + got + ", due is " + want);
        }
    }

    static Object answerOf(Call call) {
        try {
            return call.answer();
        } catch (RuntimeException e) {
            return e.getClass();
        }
    }

    static void refused(String what, Class<?> want, Call call) {
        due(what, want, answerOf(call));
    }

    /** The call answers, or throws, what is due, and the store then tells all that it tells without it. */
    static void unchanged(String what, State state, Object want, State.Act call) {
        due(what, want, State.answerOf(call, state.made()));
        alike(what + " changes nothing", state, state.then(call));
    }

    /** The store in the one state tells all that it tells in the other. */
    static void alike(String what, State state, State other) {
        List<String> want = state.tells();
        List<String> got = other.tells();
        for (int i = 0; i < want.size() && i < got.size(); i++) {
            if (!want.get(i).equals(got.get(i))) {
                due(what, want.get(i), got.get(i));
                return;
            }
        }
        due(what, want.size(), got.size());
    }

    /** The cells of a grid or view, row by row, a hole as a dot. */
    static String cells(GridStore store, int of) {
        StringBuilder text = new StringBuilder();
        int wide = store.size(of, false);
        int high = store.size(of, true);
        for (int y = 0; y < high; y++) {
            for (int x = 0; x < wide; x++) {
                text.append(store.hole(of, x, y) ? "." : String.valueOf(store.get(of, x, y)));
                text.append(x + 1 < wide ? " " : "");
            }
            text.append(y + 1 < high ? " / " : "");
        }
        return text.toString();
    }

    /** The kinds of a grid's pieces, row by row. */
    static String kinds(GridStore store, int grid) {
        StringBuilder text = new StringBuilder();
        int wide = store.size(grid, false);
        int high = store.size(grid, true);
        for (int q = 0; 8 * q < high; q++) {
            for (int p = 0; 8 * p < wide; p++) {
                text.append(store.kind(grid, p, q)).append(8 * p + 8 < wide ? " " : "");
            }
            text.append(8 * q + 8 < high ? " / " : "");
        }
        return text.toString();
    }

    /** A store with grids written as cells() tells them. */
    static GridStore holding(String... grids) {
        GridStore store = new GridStore();
        for (String text : grids) {
            addGrid(store, text);
        }
        return store;
    }

    static int addGrid(GridStore store, String text) {
        String[] rows = text.split(" / ");
        int grid = store.grid(rows[0].split(" ").length, rows.length);
        for (int y = 0; y < rows.length; y++) {
            String[] row = rows[y].split(" ");
            for (int x = 0; x < row.length; x++) {
                if (!row[x].equals(".")) {
                    store.set(grid, x, y, Integer.parseInt(row[x]));
                }
            }
        }
        return grid;
    }

    static void finish(String name) {
        System.out.println(name + ": " + checks + " checks, " + wrong + " wrong");
        if (wrong != 0) {
            System.exit(1);
        }
    }
}
