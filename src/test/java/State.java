import java.util.ArrayList;
import java.util.List;

/**
 * A store in a state that the same calls make again and again, and all that it then tells. It is made anew for every
 * few looks, since a store is asked 512 times at most.
 */
final class State {
    interface Act {
        Object on(GridStore store);
    }

    private record Look(String name, Act act) {
    }

    private static final int LOOKS_A_STORE = 200;

    private final List<Act> acts;
    private List<String> told = null;

    State(Act... acts) {
        this.acts = List.of(acts);
    }

    private State(List<Act> acts) {
        this.acts = List.copyOf(acts);
    }

    State then(Act... more) {
        List<Act> all = new ArrayList<>(acts);
        all.addAll(List.of(more));
        return new State(all);
    }

    GridStore made() {
        GridStore store = new GridStore();
        for (Act act : acts) {
            answerOf(act, store);
        }
        return store;
    }

    static Object answerOf(Act act, GridStore store) {
        return Checks.answerOf(() -> act.on(store));
    }

    /** Every answer of the store in this state, each behind the call that it answers. */
    List<String> tells() {
        if (told == null) {
            told = new ArrayList<>();
            List<Look> looks = looksAt(made());
            for (int first = 0; first < looks.size(); first += LOOKS_A_STORE) {
                tell(looks.subList(first, Math.min(looks.size(), first + LOOKS_A_STORE)));
            }
            tell(lastLooks());
        }
        return told;
    }

    private void tell(List<Look> looks) {
        GridStore store = made();
        for (Look look : looks) {
            told.add(look.name + " = " + answerOf(look.act, store));
        }
    }

    private static List<Look> looksAt(GridStore store) {
        List<Look> looks = new ArrayList<>();
        for (int what = 0; what <= 8; what++) {
            int asked = what;
            looks.add(new Look("count(" + what + ")", s -> s.count(asked)));
        }
        for (int grid = 0; grid < 8; grid++) {
            int wide = sizeOf(store, grid, false);
            int high = sizeOf(store, grid, true);
            addCells(looks, grid, wide, high);
            addPieces(looks, grid, wide, high);
            addLayers(looks, grid, wide, high, store);
        }
        for (int view = 100; view < 112; view++) {
            addCells(looks, view, sizeOf(store, view, false), sizeOf(store, view, true));
        }
        return looks;
    }

    private static int sizeOf(GridStore store, int of, boolean high) {
        Object size = answerOf(s -> s.size(of, high), store);
        return size instanceof Integer ? (Integer) size : 0;
    }

    private static void addCells(List<Look> looks, int of, int wide, int high) {
        looks.add(new Look("size(" + of + ", false)", s -> s.size(of, false)));
        looks.add(new Look("size(" + of + ", true)", s -> s.size(of, true)));
        for (int i = 0; i < wide * high; i++) {
            int x = i % wide;
            int y = i / wide;
            looks.add(new Look("get(" + of + ", " + x + ", " + y + ")", s -> s.get(of, x, y)));
        }
    }

    private static void addPieces(List<Look> looks, int grid, int wide, int high) {
        for (int q = 0; 8 * q < high; q++) {
            for (int p = 0; 8 * p < wide; p++) {
                int askedP = p;
                int askedQ = q;
                looks.add(new Look("kind(" + grid + ", " + p + ", " + q + ")", s -> s.kind(grid, askedP, askedQ)));
            }
        }
    }

    private static void addLayers(List<Look> looks, int grid, int wide, int high, GridStore store) {
        for (int layer = 0; answerOf(lookAt(grid, layer, 0, 0), store) != Checks.NO_SUCH_PLACE; layer++) {
            for (int i = 0; i < wide * high; i++) {
                looks.add(new Look("was(" + grid + ", " + layer + ", " + i % wide + ", " + i / wide + ")",
                    lookAt(grid, layer, i % wide, i / wide)));
            }
        }
    }

    private static Act lookAt(int grid, int layer, int x, int y) {
        return s -> s.was(grid, layer, x, y);
    }

    /** Looks that change what is looked at, each but once: what is closed, what is lost, and which numbers come next. */
    private static List<Look> lastLooks() {
        List<Look> looks = new ArrayList<>();
        for (int view = 0; view < 12; view++) {
            int asked = view;
            looks.add(new Look("close(" + view + ", false)", s -> s.close(asked, false)));
        }
        for (int host = 0; host < 5; host++) {
            int asked = host;
            looks.add(new Look("lose(" + host + ", false)", s -> s.lose(asked, false)));
        }
        for (int grid = 0; grid < 8; grid++) {
            int asked = grid;
            looks.add(new Look("keep(" + grid + ")", s -> s.keep(asked)));
        }
        looks.add(new Look("grid(1, 1)", s -> s.grid(1, 1)));
        looks.add(new Look("view(0, 0, 0, 1, 1, 0, false)", s -> s.view(0, 0, 0, 1, 1, 0, false)));
        return looks;
    }
}
