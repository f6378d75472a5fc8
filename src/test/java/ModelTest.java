import java.util.ArrayList;
import java.util.Collections;
import java.util.HashMap;
import java.util.IdentityHashMap;
import java.util.List;
import java.util.Map;
import java.util.Set;

/**
 * Long mixed runs beside a model that takes the document at its word: one whole state for each
 * open group, a local assignment changes the last state, a global one changes all of them.
 */
public final class ModelTest {
    private static final int RUNS = 3000;
    private static final int CALLS = 512;
    private static final long THROWS = 1L << 40;
    private static final int[] NAMES = {0, 1, 2, 3, 999, 0, 1, 2, 3, 999, 4, 5, -1, 1000};
    private static final int[] CELLS = {0, 1, 2365, 0, 1, 2365, 2, 3, -1, 2366};

    private static final class Meaning {
        final int kind;
        final int value;
        final int[] row;

        Meaning(int kind, int value, int[] row) {
            this.kind = kind;
            this.value = value;
            this.row = row;
        }
    }

    private static final class State {
        final Map<Integer, Integer> cells = new HashMap<>();
        final Map<Integer, Meaning> names = new HashMap<>();
        int[] shape = new int[0];

        State copy() {
            State s = new State();
            s.cells.putAll(cells);
            s.names.putAll(names);
            s.shape = shape;
            return s;
        }
    }

    private static final class Model {
        final List<State> states = new ArrayList<>(List.of(new State()));
        final List<Integer> draft = new ArrayList<>();

        State now() {
            return states.get(states.size() - 1);
        }

        List<State> reached(boolean global) {
            return global ? states : List.of(now());
        }

        Meaning meaning(int name) {
            return now().names.getOrDefault(name, new Meaning(0, 0, null));
        }

        int[] takeDraft() {
            int[] row = draft.stream().mapToInt(Integer::intValue).toArray();
            draft.clear();
            return row;
        }

        void give(int name, Meaning m, boolean global) {
            for (State s : reached(global)) {
                s.names.put(name, m);
            }
        }

        long kept() {
            Set<int[]> rows = Collections.newSetFromMap(new IdentityHashMap<>());
            for (State s : states) {
                for (Meaning m : s.names.values()) {
                    if (m.kind == 3) {
                        rows.add(m.row);
                    }
                }
            }
            return rows.stream().mapToLong(r -> r.length).sum();
        }
    }

    private static long seed;

    private static int below(int n) {
        seed = seed * 6364136223846793005L + 1442695040888963407L;
        return (int) ((seed >>> 33) % n);
    }

    private static boolean isName(int name) {
        return name >= 0 && name < 1000;
    }

    private static boolean isCell(int cell) {
        return cell >= 0 && cell < 2366;
    }

    private static long flag(boolean b) {
        return b ? 1 : 0;
    }

    /** One call on both: what was called, what the class answered, and what the model did. */
    private static final class Step {
        String call;
        long got;
        long want;
    }

    private static void openOrClose(GroupDesk x, Model m, Step s, boolean open) {
        if (open) {
            s.call = "open()";
            s.got = flag(x.open());
            s.want = flag(m.states.size() <= 200);
            if (s.want == 1) {
                m.states.add(m.now().copy());
            }
        } else {
            s.call = "close()";
            s.got = flag(x.close());
            s.want = flag(m.states.size() > 1);
            if (s.want == 1) {
                m.states.remove(m.states.size() - 1);
            }
        }
    }

    private static void assignInt(GroupDesk x, Model m, Step s, boolean toCell) {
        boolean global = below(4) == 0;
        int v = below(100) - 50;
        if (toCell) {
            int cell = CELLS[below(CELLS.length)];
            s.call = "set(" + cell + ", " + v + ", " + global + ")";
            s.got = flag(x.set(cell, v, global));
            s.want = flag(isCell(cell));
            for (State t : isCell(cell) ? m.reached(global) : List.<State>of()) {
                t.cells.put(cell, v);
            }
            return;
        }
        int name = NAMES[below(NAMES.length)];
        int kind = below(11) - 1;
        s.call = "mean(" + name + ", " + kind + ", " + v + ", " + global + ")";
        s.got = flag(x.mean(name, kind, v, global));
        s.want = flag(isName(name) && kind >= 0 && kind <= 8 && kind != 3);
        if (s.want == 1) {
            m.give(name, new Meaning(kind, v, null), global);
        }
    }

    private static void draft(GroupDesk x, Model m, Step s) {
        int v = below(1000) - 500;
        s.call = "draft(" + v + ")";
        s.got = flag(x.draft(v));
        s.want = flag(m.draft.size() < 200);
        if (s.want == 1) {
            m.draft.add(v);
        }
    }

    private static void define(GroupDesk x, Model m, Step s) {
        int name = NAMES[below(NAMES.length)];
        boolean global = below(4) == 0;
        s.call = "define(" + name + ", " + global + ")";
        try {
            s.got = x.define(name, global);
        } catch (IndexOutOfBoundsException e) {
            s.got = thrown(e);
        }
        s.want = isName(name) ? m.draft.size() : THROWS;
        if (isName(name)) {
            m.give(name, new Meaning(3, 0, m.takeDraft()), global);
        }
    }

    private static void let(GroupDesk x, Model m, Step s) {
        int name = NAMES[below(NAMES.length)];
        int other = NAMES[below(NAMES.length)];
        boolean global = below(4) == 0;
        s.call = "let(" + name + ", " + other + ", " + global + ")";
        s.got = flag(x.let(name, other, global));
        s.want = flag(isName(name) && isName(other));
        if (s.want == 1) {
            m.give(name, m.meaning(other), global);
        }
    }

    private static void shape(GroupDesk x, Model m, Step s) {
        boolean global = below(4) == 0;
        s.call = "shape(" + global + ")";
        s.got = x.shape(global);
        s.want = m.draft.size();
        int[] row = m.takeDraft();
        for (State t : m.reached(global)) {
            t.shape = row;
        }
    }

    private static void ask(GroupDesk x, Model m, Step s) {
        int cell = CELLS[below(CELLS.length)];
        int name = NAMES[below(NAMES.length)];
        int what = below(5) - 1;
        int k = below(8) - 2;
        try {
            switch (below(3)) {
                case 0:
                    s.call = "get(" + cell + ")";
                    s.want = isCell(cell) ? m.now().cells.getOrDefault(cell, 0) : THROWS;
                    s.got = x.get(cell);
                    break;
                case 1:
                    s.call = "about(" + name + ", " + what + ")";
                    s.want = aboutDue(m, name, what);
                    s.got = x.about(name, what);
                    break;
                default:
                    s.call = "number(" + name + ", " + k + ")";
                    s.want = numberDue(m, name, k);
                    s.got = x.number(name, k);
                    break;
            }
        } catch (IndexOutOfBoundsException e) {
            s.got = thrown(e);
        }
    }

    private static long aboutDue(Model m, int name, int what) {
        if (!isName(name) || what < 0 || what > 1) {
            return THROWS;
        }
        Meaning mean = m.meaning(name);
        if (what == 0) {
            return mean.kind;
        }
        return mean.kind == 3 ? mean.row.length : mean.value;
    }

    private static long numberDue(Model m, int name, int k) {
        if (name == -1 && k == -1) {
            return m.now().shape.length;
        }
        int[] row = name == -1 ? m.now().shape : m.meaning(name).row;
        return row == null || k < 0 || k >= row.length ? THROWS : row[k];
    }

    private static void count(GroupDesk x, Model m, Step s) {
        int what = below(6) - 1;
        s.call = "count(" + what + ")";
        s.got = x.count(what);
        s.want = what == 0 ? m.states.size() - 1
                : what == 1 ? m.draft.size()
                : what == 2 ? m.kept()
                : -1;
    }

    /** The machine's own exceptions are classes below the document's one, and are let through. */
    private static long thrown(IndexOutOfBoundsException e) {
        if (e.getClass() != IndexOutOfBoundsException.class) {
            throw e;
        }
        return THROWS;
    }

    private static void step(GroupDesk x, Model m, Step s, int openShare) {
        int dice = below(100);
        if (dice < 22) {
            openOrClose(x, m, s, below(100) < openShare);
        } else if (dice < 36) {
            assignInt(x, m, s, below(2) == 0);
        } else if (dice < 54) {
            draft(x, m, s);
        } else if (dice < 64) {
            define(x, m, s);
        } else if (dice < 72) {
            let(x, m, s);
        } else if (dice < 75) {
            shape(x, m, s);
        } else if (dice < 88) {
            ask(x, m, s);
        } else {
            count(x, m, s);
        }
    }

    /** Some runs mostly open groups or mostly draft, so that they come to the fullest there are. */
    private static void leaningStep(GroupDesk x, Model m, Step s, int leaning, int openShare) {
        if (leaning == 1 && below(100) < 60) {
            openOrClose(x, m, s, below(100) < 95);
        } else if (leaning == 2 && below(100) < 97) {
            draft(x, m, s);
        } else {
            step(x, m, s, openShare);
        }
    }

    private static boolean runIsAsDue(int run) {
        seed = run;
        int leaning = run % 4;
        int openShare = 45 + below(30);
        GroupDesk x = new GroupDesk();
        Model m = new Model();
        Step s = new Step();
        for (int i = 0; i < CALLS; i++) {
            leaningStep(x, m, s, leaning, openShare);
            if (s.got != s.want) {
                System.out.println("run " + run + ", call " + i + ": " + s.call + " answered " + s.got
                        + ", due is " + s.want + " (" + THROWS + " is the exception)");
                return false;
            }
        }
        return true;
    }

    public static void main(String[] args) {
        int wrong = 0;
        for (int run = 0; run < RUNS; run++) {
            if (!runIsAsDue(run)) {
                wrong++;
            }
        }
        System.out.println(wrong == 0 ? "all runs are as due" : wrong + " runs are not as due");
        if (wrong != 0) {
            System.exit(1);
        }
    }
}
